/-! THE COMPONENT'S WAYS, 9: what is measured is the model's measure -/
theorem st_op {k s : Nat} (hs : s < 4) (ho : okS k s) : stp (stp k s) (opS s) = k := by
  unfold okS at ho
  have : s = 0 ∨ s = 1 ∨ s = 2 ∨ s = 3 := by omega
  rcases this with rfl | rfl | rfl | rfl
  · have := ho.1 rfl; simp [stp, opS]; omega
  · simp [stp, opS]
  · have := ho.2.2.1 rfl; simp [stp, opS]; omega
  · simp [stp, opS]
theorem sd_inv {s : Nat} (h : s < 4) : ∃ r, r < 4 ∧ sd r = s := by
  have : ∀ s, s < 4 → ∃ r, r < 4 ∧ sd r = s := by decide
  exact this s h
abbrev flc (σ : MS) (k : Nat) : Prop := k < 36 ∧ ¬ σ.2 25 k = -1
theorem flc_rm {σ : MS} {k : Nat} (h : flc σ k) : isRm σ (nI k) := ⟨⟨nI_pos' (by have := h.1; omega), nI_le (b := 35) (by have := h.1; omega) (by decide)⟩, by rw [nI_clamp (by have := h.1; omega)]; exact h.2⟩
/-- before side s of c is seen: what is nearer is set, some of what lies one farther too -/
def aJ (σ : MS) (D : Nat → Nat) (r : Nat) (κ : AH) : Prop := ∀ k, flc σ k → (D k ≤ r → gI κ (tR k) 6 = nI (D k + 1)) ∧ (¬ D k ≤ r → gI κ (tR k) 6 = 0 ∨ (D k = r + 1 ∧ gI κ (tR k) 6 = nI (r + 2)))
def aA (σ : MS) (D : Nat → Nat) (r : Nat) (κ : AH) : Prop := ∀ k, flc σ k → gI κ (tR k) 6 = if D k ≤ r then nI (D k + 1) else 0
theorem aJ_of {σ : MS} {D : Nat → Nat} {r : Nat} {κ : AH} (h : aA σ D r κ) : aJ σ D r κ := fun k hk => by
  have q := h k hk
  exact ⟨fun z => by rw [q, if_pos z], fun z => Or.inl (by rw [q, if_neg z])⟩
section BF
variable {σ : MS} {D : Nat → Nat} {t : Int32} {r : Nat}
theorem nz1 {n : Nat} (h : n < 1000) : ¬ nI (n + 1) = 0 := fun z => by have := (nI_eq (b := 0) (by omega) (by decide)).mp z; omega
theorem aJ_r {κ : AH} {c : Nat} (hD : isD σ t D) (h : aJ σ D r κ) (hr : r < 36) (hc : flc σ c) (e : gI κ (tR c) 6 = nI (r + 1)) : D c = r := by
  have hd := (hD c hc.1).1
  by_cases q : D c ≤ r
  · have := (h c hc).1 q
    rw [e] at this
    have := (nI_eq (by omega) (by omega)).mp this
    omega
  · rcases (h c hc).2 q with z | z
    · rw [e] at z; exact absurd z (nz1 (by omega))
    · rw [e] at z
      have := (nI_eq (by omega) (by omega)).mp z.2
      omega
/-- a side of c leads to k -/
theorem th_k {c s : Nat} (hS : hSy σ) (hc : c < 36) (h : thC σ c s) : flc σ (stp c (sd s)) ∧ stp c (sd s) ≠ c ∧ hb σ (stp c (sd s)) (opS (sd s)) ∧ stp (stp c (sd s)) (opS (sd s)) = c := by
  obtain ⟨a1, a2, a3⟩ := hS c (sd s) hc sd_lt h.1
  have h36 := stp_lt hc a1 sd_lt
  refine ⟨⟨h36, a2⟩, ?_, a3, st_op sd_lt a1⟩
  have := sd_lt (s := s)
  unfold okS at a1
  intro z
  unfold stp at z
  split at z
  · rename_i q; have := a1.1 q; omega
  · split at z
    · omega
    · split at z
      · rename_i q; have := a1.2.2.1 q; omega
      · omega
theorem th_D {c s : Nat} (hD : isD σ t D) (hS : hSy σ) (hc : c < 36) (h : thC σ c s) (hr : D c = r) (hr2 : r + 1 < 36) : D (stp c (sd s)) ≤ r + 1 := by
  obtain ⟨a, b, d, e⟩ := th_k hS hc h
  have h1 := (hD c hc).2.1 (by omega)
  rw [hr] at h1
  exact (hD _ a.1).2.2 (r + 1) hr2 ⟨h.2.2, opS (sd s), op4, d, by rw [e]; exact h1⟩
theorem aJ_sp {κ : AH} {c : Nat} (hD : isD σ t D) (hS : hSy σ) (hr2 : r + 1 < 36) (hc : flc σ c) (hcr : D c = r) (h : aJ σ D r κ) : ∀ s, aJ σ D r (spH κ σ c s) ∧ (∀ k, flc σ k → ¬ gI κ (tR k) 6 = 0 → ¬ gI (spH κ σ c s) (tR k) 6 = 0) ∧ (∀ q, q < s → thC σ c q → ¬ gI (spH κ σ c s) (tR (stp c (sd q))) 6 = 0) ∧ (spB κ σ c s = 0 → spH κ σ c s = κ)
  | 0 => ⟨h, fun _ _ z => z, fun q hq => absurd hq (Nat.not_lt_zero _), fun _ => rfl⟩
  | s + 1 => by
    obtain ⟨i1, i2, i3, i4⟩ := aJ_sp hD hS hr2 hc hcr h s
    by_cases e : thB σ c s = true ∧ gI (spH κ σ c s) (tR (stp c (sd s))) 6 = 0
    · have hth := thB_iff.mp e.1
      obtain ⟨a, b, d, f⟩ := th_k hS hc.1 hth
      have hdk := th_D hD hS hc.1 hth hcr hr2
      have hnk : ¬ D (stp c (sd s)) ≤ r := fun z => by
        have := (i1 _ a).1 z
        rw [e.2] at this
        exact absurd this.symm (nz1 (by omega))
      have eS : spH κ σ c (s + 1) = sI (spH κ σ c s) (tR (stp c (sd s))) 6 (nI (r + 2)) := by
        have v : gI (spH κ σ c s) (tR c) 6 = nI (r + 1) := by rw [(i1 c hc).1 (by omega), hcr]
        show (if thB σ c s = true ∧ gI (spH κ σ c s) (tR (stp c (sd s))) 6 = 0 then sI (spH κ σ c s) (tR (stp c (sd s))) 6 (gI (spH κ σ c s) (tR c) 6 + 1) else spH κ σ c s) = _
        rw [if_pos e, v, nI_1]
      have u : ∀ k, gI (spH κ σ c (s + 1)) (tR k) 6 = if k = stp c (sd s) then nI (r + 2) else gI (spH κ σ c s) (tR k) 6 := fun k => by
        rw [eS, gI_sI]
        simp only [tR_inj, and_true]
      refine ⟨fun k hk => ?_, fun k hk z => ?_, fun q hq hq2 => ?_, fun z => ?_⟩
      · rw [u]
        by_cases ek : k = stp c (sd s)
        · rw [if_pos ek]
          exact ⟨fun z => absurd (ek ▸ z) hnk, fun _ => Or.inr ⟨by rw [ek]; omega, rfl⟩⟩
        · rw [if_neg ek]; exact i1 k hk
      · rw [u]
        by_cases ek : k = stp c (sd s)
        · rw [if_pos ek]; exact nz1 (by omega)
        · rw [if_neg ek]; exact i2 k hk z
      · rw [u]
        by_cases ek : stp c (sd q) = stp c (sd s)
        · rw [if_pos ek]; exact nz1 (by omega)
        · rw [if_neg ek]
          have : q ≠ s := fun z => ek (by rw [z])
          exact i3 q (by omega) hq2
      · have : spB κ σ c (s + 1) = 1 := by
          show (if thB σ c s = true ∧ gI (spH κ σ c s) (tR (stp c (sd s))) 6 = 0 then 1 else spB κ σ c s) = 1
          rw [if_pos e]
        rw [this] at z
        exact absurd z (by decide)
    · have eS : spH κ σ c (s + 1) = spH κ σ c s := if_neg e
      have eB : spB κ σ c (s + 1) = spB κ σ c s := if_neg e
      rw [eS, eB]
      refine ⟨i1, i2, fun q hq hq2 => ?_, i4⟩
      by_cases z : q = s
      · subst z
        exact fun w => e ⟨thB_iff.mpr hq2, w⟩
      · exact i3 q (by omega) hq2
theorem aJ_sa {κ : AH} (hD : isD σ t D) (hS : hSy σ) (hr2 : r + 1 < 36) (h : aJ σ D r κ) : ∀ c, c ≤ 36 → aJ σ D r (saH κ σ (nI (r + 1)) c) ∧ (∀ k, flc σ k → ¬ gI κ (tR k) 6 = 0 → ¬ gI (saH κ σ (nI (r + 1)) c) (tR k) 6 = 0) ∧ (∀ j, j < c → flc σ j → D j = r → ∀ q, q < 4 → thC σ j q → ¬ gI (saH κ σ (nI (r + 1)) c) (tR (stp j (sd q))) 6 = 0) ∧ (saB κ σ (nI (r + 1)) c = 0 → saH κ σ (nI (r + 1)) c = κ)
  | 0, _ => ⟨h, fun _ _ z => z, fun q hq => absurd hq (Nat.not_lt_zero _), fun _ => rfl⟩
  | c + 1, hc => by
    obtain ⟨i1, i2, i3, i4⟩ := aJ_sa hD hS hr2 h c (by omega)
    by_cases e : ¬ σ.2 25 c = -1 ∧ gI (saH κ σ (nI (r + 1)) c) (tR c) 6 = nI (r + 1)
    · have hcf : flc σ c := ⟨by omega, e.1⟩
      have hcr := aJ_r hD i1 (by omega) hcf e.2
      obtain ⟨j1, j2, j3, j4⟩ := aJ_sp hD hS hr2 hcf hcr i1 4
      have eS : saH κ σ (nI (r + 1)) (c + 1) = spH (saH κ σ (nI (r + 1)) c) σ c 4 := if_pos e
      rw [eS]
      refine ⟨j1, fun k hk z => j2 k hk (i2 k hk z), fun j hj hjf hjr q hq hq2 => ?_, fun z => ?_⟩
      · by_cases w : j = c
        · subst w; exact j3 q hq hq2
        · exact j2 _ (th_k hS hjf.1 hq2).1 (i3 j (by omega) hjf hjr q hq hq2)
      · have eB : saB κ σ (nI (r + 1)) (c + 1) = if (¬ σ.2 25 c = -1 ∧ gI (saH κ σ (nI (r + 1)) c) (tR c) 6 = nI (r + 1)) ∧ ¬ spB (saH κ σ (nI (r + 1)) c) σ c 4 = 0 then 1 else saB κ σ (nI (r + 1)) c := rfl
        rw [eB] at z
        by_cases w : spB (saH κ σ (nI (r + 1)) c) σ c 4 = 0
        · rw [if_neg (fun x => x.2 w)] at z
          rw [j4 w, i4 z]
        · rw [if_pos ⟨e, w⟩] at z
          exact absurd z (by decide)
    · have eS : saH κ σ (nI (r + 1)) (c + 1) = saH κ σ (nI (r + 1)) c := if_neg e
      have eB : saB κ σ (nI (r + 1)) (c + 1) = saB κ σ (nI (r + 1)) c := if_neg (fun x => e x.1)
      rw [eS, eB]
      refine ⟨i1, i2, fun j hj hjf hjr q hq hq2 => ?_, i4⟩
      by_cases w : j = c
      · subst w
        exact absurd ⟨hjf.2, by rw [(i1 j hjf).1 (by omega), hjr]⟩ e
      · exact i3 j (by omega) hjf hjr q hq hq2
/-- one farther: beside a nearer one -/
theorem D_near {k : Nat} (hD : isD σ t D) (hS : hSy σ) (hk : flc σ k) (e : D k = r + 1) (hr : r + 1 < 36) : ∃ j q, flc σ j ∧ D j = r ∧ q < 4 ∧ thC σ j q ∧ stp j (sd q) = k := by
  have ho : hOK σ := fun k s hk hs z => (hS k s hk hs z).1
  obtain ⟨h1, s, h2, h3, h4⟩ := isD_next ho hD hk.1 (by omega) (by omega)
  obtain ⟨b1, b2, b3⟩ := hS k s hk.1 h2 h3
  obtain ⟨q, hq, eq⟩ := sd_inv (op4 (t := s))
  have e2 : stp (stp k s) (sd q) = k := by rw [eq]; exact st_op h2 b1
  refine ⟨stp k s, q, ⟨stp_lt hk.1 b1 h2, b2⟩, by omega, hq, ⟨by rw [eq]; exact b3, ?_, ?_⟩, e2⟩
  · rw [e2]; exact flc_rm hk
  · rw [e2]; exact h1
theorem aA_round {κ : AH} (hD : isD σ t D) (hS : hSy σ) (hr2 : r + 1 < 36) (h : aA σ D r κ) : aA σ D (r + 1) (saH κ σ (nI (r + 1)) 36) ∧ (saB κ σ (nI (r + 1)) 36 = 0 → ∀ k, flc σ k → ¬ D k = r + 1) := by
  obtain ⟨i1, i2, i3, i4⟩ := aJ_sa hD hS hr2 (aJ_of h) 36 (Nat.le_refl _)
  have hit : ∀ k, flc σ k → D k = r + 1 → ¬ gI (saH κ σ (nI (r + 1)) 36) (tR k) 6 = 0 := fun k hk e => by
    obtain ⟨j, q, hj, hjr, hq, hth, ek⟩ := D_near hD hS hk e hr2
    rw [← ek]
    exact i3 j hj.1 hj hjr q hq hth
  refine ⟨fun k hk => ?_, fun z k hk e => ?_⟩
  · by_cases e1 : D k ≤ r
    · rw [if_pos (by omega), (i1 k hk).1 e1]
    · rcases (i1 k hk).2 e1 with z | z
      · by_cases e2 : D k = r + 1
        · exact absurd z (hit k hk e2)
        · rw [if_neg (by omega), z]
      · rw [if_pos (by omega), z.2, z.1]
  · have q := hit k hk e
    rw [i4 z, h k hk, if_neg (by omega)] at q
    exact q rfl
/-- none at r + 1: none farther -/
theorem D_none (hD : isD σ t D) (hS : hSy σ) (h : ∀ k, flc σ k → ¬ D k = r + 1) : ∀ n k, flc σ k → D k = r + 1 + n → ¬ D k < 36
  | 0, k, hk, e, _ => h k hk e
  | n + 1, k, hk, e, hl => by
    obtain ⟨j, q, hj, hjr, -⟩ := D_near (r := r + 1 + n) hD hS hk (by omega) (by omega)
    exact D_none hD hS h n j hj hjr (by omega)
theorem aA_bf {κ : AH} (hD : isD σ t D) (hS : hSy σ) (h : aA σ D 0 κ) : ∀ k, k ≤ 35 → aA σ D k (bfH κ σ k).1 ∧ ((bfH κ σ k).2 = 0 → ∀ j, flc σ j → D j < 36 → D j ≤ k)
  | 0, _ => ⟨h, fun z => absurd (show (1 : Int32) = 0 from z) (by decide)⟩
  | k + 1, hk => by
    obtain ⟨i1, i2⟩ := aA_bf hD hS h k (by omega)
    by_cases e : (bfH κ σ k).2 = 0
    · have eS : bfH κ σ (k + 1) = bfH κ σ k := if_pos e
      rw [eS]
      refine ⟨fun j hj => ?_, fun z j hj hl => Nat.le_succ_of_le (i2 z j hj hl)⟩
      rw [i1 j hj]
      by_cases w : D j ≤ k
      · rw [if_pos w, if_pos (by omega)]
      · rw [if_neg w, if_neg (fun x => w (i2 e j hj (by omega)))]
    · have eS : bfH κ σ (k + 1) = (saH (bfH κ σ k).1 σ (nI (k + 1)) 36, saB (bfH κ σ k).1 σ (nI (k + 1)) 36) := if_neg e
      obtain ⟨j1, j2⟩ := aA_round (r := k) hD hS (by omega) i1
      rw [eS]
      refine ⟨j1, fun z j hj hl => Classical.byContradiction fun w => ?_⟩
      exact D_none hD hS (j2 z) (D j - (k + 1)) j hj (by omega) hl
end BF
theorem zrH_6 {κ : AH} {σ : MS} {k : Nat} : ∀ c, gI (zrH κ σ c) (tR k) 6 = if k < c ∧ ¬ σ.2 25 k = -1 then 0 else gI κ (tR k) 6
  | 0 => by rw [if_neg (fun z => absurd z.1 (Nat.not_lt_zero _))]; rfl
  | c + 1 => by
    have ih := zrH_6 (κ := κ) (σ := σ) (k := k) c
    unfold zrH
    by_cases e : k = c
    · subst e
      split
      · rename_i q
        rw [ih, if_neg (fun z => z.2 q), if_neg (fun z => z.2 q)]
      · rename_i q
        rw [gI_sI, if_pos ⟨rfl, rfl⟩, if_pos ⟨by omega, q⟩]
    · have w : (k < c + 1 ∧ ¬ σ.2 25 k = -1) ↔ (k < c ∧ ¬ σ.2 25 k = -1) := ⟨fun z => ⟨by omega, z.2⟩, fun z => ⟨by omega, z.2⟩⟩
      simp only [w]
      rw [← ih]
      split
      · rfl
      · rw [gI_sI, if_neg (fun z => e (tR_inj.mp z.1))]
theorem rP_end {σ : MS} {t : Int32} : ∀ n k, rP σ t n k → ∃ j, nI j = t ∧ opn σ j
  | 0, k, h => ⟨k, h⟩
  | n + 1, k, h => by
    obtain ⟨-, s, -, -, h⟩ := h
    exact rP_end n _ h
/-- the measured numbers -/
theorem me_6 {κ : AH} {σ : MS} {b k : Nat} (hS : hSy σ) (hb : b < 36) (hk : flc σ k) : gI (meH κ σ b) (tR k) 6 = if dst σ (nI b) k < 36 then nI (dst σ (nI b) k + 1) else 0 := by
  have ho : hOK σ := fun k s hk hs z => (hS k s hk hs z).1
  have hD := dst_isD (t := nI b) ho
  have hd := (hD k hk.1).1
  unfold meH
  by_cases e : 3 ≤ σ.2 28 b
  · rw [if_pos e, zrH_6, if_pos hk, if_neg]
    intro z
    obtain ⟨j, ej, oj⟩ := rP_end _ _ ((hD k hk.1).2.1 z)
    have : nI j = nI b → (nI j).toNatClampNeg = (nI b).toNatClampNeg := fun z => by rw [z]
    have hj : ∃ i, i < 36 ∧ rP σ (nI b) 0 i := by
      obtain ⟨n, hn⟩ : ∃ n, dst σ (nI b) k = n := ⟨_, rfl⟩
      have hr := (hD k hk.1).2.1 z
      rw [hn] at hr
      clear hn
      have key : ∀ n k, k < 36 → rP σ (nI b) n k → ∃ i, i < 36 ∧ rP σ (nI b) 0 i := by
        intro n
        induction n with
        | zero => exact fun k hk h => ⟨k, hk, h⟩
        | succ n ih =>
          intro k hk h
          obtain ⟨-, s, hs, h2, h3⟩ := h
          exact ih _ (stp_lt hk (ho k s hk hs h2) hs) h3
      exact key n k hk.1 hr
    obtain ⟨i, hi, hi2⟩ := hj
    have ei := (nI_eq (by omega) (by omega)).mp hi2.1
    rw [ei] at hi2
    exact hi2.2 e
  · rw [if_neg e]
    have h0 : aA σ (dst σ (nI b)) 0 (sI (zrH κ σ 36) (tR b) 6 1) := by
      intro j hj
      rw [gI_sI, zrH_6, if_pos hj]
      by_cases w : j = b
      · have q : dst σ (nI b) j ≤ 0 := (hD j hj.1).2.2 0 (by decide) ⟨by rw [w], by rw [w]; exact e⟩
        rw [if_pos ⟨by rw [w], rfl⟩, if_pos q, show dst σ (nI b) j = 0 from by omega]
        rfl
      · rw [if_neg (fun z => w (tR_inj.mp z.1))]
        by_cases q : dst σ (nI b) j ≤ 0
        · exfalso
          have e0 : dst σ (nI b) j = 0 := by omega
          have h1 := (hD j hj.1).2.1 (by omega)
          rw [e0] at h1
          exact w ((nI_eq (by have := hj.1; omega) (by omega)).mp h1.1)
        · rw [if_neg q]
    have h9 := (aA_bf hD hS h0 35 (Nat.le_refl _)).1 k hk
    rw [h9]
    by_cases q : dst σ (nI b) k < 36
    · rw [if_pos q, if_pos (by omega)]
    · rw [if_neg q, if_neg (by omega)]
/-! the way -/
theorem nrS_min {σ : MS} {f : Nat → Nat} {k : Nat} (ho : hOK σ) (hk : k < 36) : ∀ n, n ≤ 4 → (nrS σ f k n = -1 ∧ ∀ s, s < n → ¬ (hb σ k s ∧ f (stp k s) + 1 = f k)) ∨ ∃ s, s < n ∧ (hb σ k s ∧ f (stp k s) + 1 = f k) ∧ nrS σ f k n = nI (stp k s) ∧ ∀ q, q < n → (hb σ k q ∧ f (stp k q) + 1 = f k) → stp k s ≤ stp k q
  | 0, _ => Or.inl ⟨rfl, fun s hs => absurd hs (Nat.not_lt_zero _)⟩
  | n + 1, hn => by
    have ih := nrS_min (f := f) ho hk n (by omega)
    unfold nrS
    by_cases e : (hb σ k n ∧ f (stp k n) + 1 = f k) ∧ (nrS σ f k n = -1 ∨ nI (stp k n) < nrS σ f k n)
    · rw [if_pos e]
      have h36 := stp_lt hk (ho k n hk (by omega) e.1.1) (by omega)
      refine Or.inr ⟨n, by omega, e.1, rfl, fun q hq hq2 => ?_⟩
      by_cases w : q = n
      · rw [w]; exact Nat.le_refl _
      · rcases ih with ⟨i1, i2⟩ | ⟨s, i1, i2, i3, i4⟩
        · exact absurd hq2 (i2 q (by omega))
        · have h1 := i4 q (by omega) hq2
          have hs36 := stp_lt hk (ho k s hk (by omega) i2.1) (by omega)
          rcases e.2 with z | z
          · rw [i3] at z; exact absurd z (nI_m1 hs36)
          · rw [i3] at z
            have := (nI_ltI (by omega) (by omega)).mp z
            omega
    · rw [if_neg e]
      rcases ih with ⟨i1, i2⟩ | ⟨s, i1, i2, i3, i4⟩
      · refine Or.inl ⟨i1, fun s hs hs2 => ?_⟩
        by_cases w : s = n
        · subst w; exact e ⟨hs2, Or.inl i1⟩
        · exact i2 s (by omega) hs2
      · refine Or.inr ⟨s, by omega, i2, i3, fun q hq hq2 => ?_⟩
        by_cases w : q = n
        · subst w
          have h36 := stp_lt hk (ho k q hk (by omega) hq2.1) (by omega)
          have hs36 := stp_lt hk (ho k s hk (by omega) i2.1) (by omega)
          have : ¬ nI (stp k q) < nI (stp k s) := fun z => e ⟨hq2, Or.inr (by rw [i3]; exact z)⟩
          rw [nI_ltI (by omega) (by omega)] at this
          omega
        · exact i4 q (by omega) hq2
theorem sd_mono {k r s : Nat} (hr : okS k (sd r)) (hs : okS k (sd s)) (hrs : r < s) (h4 : s < 4) : stp k (sd r) < stp k (sd s) := by
  have h : (r = 0 ∨ r = 1 ∨ r = 2) ∧ (s = 1 ∨ s = 2 ∨ s = 3) := by omega
  unfold okS at hr hs
  rcases h with ⟨rfl | rfl | rfl, rfl | rfl | rfl⟩ <;> simp [sd, stp] at hr hs ⊢ <;> omega
/-- the model's next cell of the way is the component's -/
theorem ln_near {κ : AH} {σ : MS} {b c : Nat} (hS : hSy σ) (hbl : b < 36) (hc : flc σ c) (h0 : 0 < dst σ (nI b) c) (h1 : dst σ (nI b) c < 36) : flc σ (nrr σ (dst σ (nI b)) c) ∧ ∃ s, s < 4 ∧ lnP (meH κ σ b) σ c s ∧ (∀ r, r < s → ¬ lnP (meH κ σ b) σ c r) ∧ nrr σ (dst σ (nI b)) c = stp c (sd s) := by
  have ho : hOK σ := fun k s hk hs z => (hS k s hk hs z).1
  have hD := dst_isD (t := nI b) ho
  have key : ∀ s, s < 4 → (lnP (meH κ σ b) σ c s ↔ hb σ c (sd s) ∧ dst σ (nI b) (stp c (sd s)) + 1 = dst σ (nI b) c) := by
    intro s hs
    constructor
    · intro z
      obtain ⟨a1, a2⟩ := z
      have a := (th_k hS hc.1 a1).1
      have hd := (hD _ a.1).1
      rw [me_6 hS hbl a, me_6 hS hbl hc, if_pos h1, ← nI_1 (dst σ (nI b) c), Int32.add_sub_cancel] at a2
      by_cases q : dst σ (nI b) (stp c (sd s)) < 36
      · rw [if_pos q] at a2
        exact ⟨a1.1, (nI_eq (by omega) (by omega)).mp a2⟩
      · rw [if_neg q] at a2
        have := (nI_eq (a := 0) (by decide) (by omega)).mp a2
        omega
    · intro z
      obtain ⟨b1, b2, b3⟩ := hS c (sd s) hc.1 sd_lt z.1
      have a : flc σ (stp c (sd s)) := ⟨stp_lt hc.1 b1 sd_lt, b2⟩
      have hp := (hD _ a.1).2.1 (by omega)
      have hopn : opn σ (stp c (sd s)) := by
        cases hq : dst σ (nI b) (stp c (sd s)) with
        | zero => rw [hq] at hp; exact hp.2
        | succ n => rw [hq] at hp; exact hp.1
      refine ⟨⟨z.1, flc_rm a, hopn⟩, ?_⟩
      rw [me_6 hS hbl a, me_6 hS hbl hc, if_pos h1, if_pos (by omega), ← nI_1 (dst σ (nI b) c), Int32.add_sub_cancel, z.2]
  obtain ⟨n1, n2, n3⟩ := nrr_ok ho hD hc.1 h0 h1
  rcases nrS_min (f := dst σ (nI b)) ho hc.1 4 (Nat.le_refl _) with ⟨i1, -⟩ | ⟨q, i1, i2, i3, i4⟩
  · rw [n1] at i1; exact absurd i1 (nI_m1 n2)
  · obtain ⟨b1, b2, b3⟩ := hS c q hc.1 i1 i2.1
    have hq36 := stp_lt hc.1 b1 i1
    have en : nrr σ (dst σ (nI b)) c = stp c q := by
      rw [n1] at i3
      exact (nI_eq (by omega) (by omega)).mp i3
    obtain ⟨s, hs, es⟩ := sd_inv i1
    refine ⟨by rw [en]; exact ⟨hq36, b2⟩, s, hs, (key s hs).mpr (by rw [es]; exact i2), fun r hr z => ?_, by rw [es]; exact en⟩
    have z2 := (key r (by omega)).mp z
    have l1 := i4 (sd r) sd_lt z2
    have l2 := sd_mono (ho c (sd r) hc.1 sd_lt z2.1) (s := s) (by rw [es]; exact b1) hr hs
    rw [es] at l2
    omega


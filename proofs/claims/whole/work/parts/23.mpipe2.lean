
def nrS (σ : MS) (f : Nat → Nat) (k : Nat) : Nat → Int32
  | 0 => -1
  | s + 1 => if (hb σ k s ∧ f (stp k s) + 1 = f k) ∧ (nrS σ f k s = -1 ∨ nI (stp k s) < nrS σ f k s) then nI (stp k s) else nrS σ f k s
theorem nrS_row {σ σ' : MS} {f : Nat → Nat} {k : Nat} (h : σ'.2 29 = σ.2 29) : ∀ s, nrS σ' f k s = nrS σ f k s
  | 0 => rfl
  | s + 1 => by unfold nrS hb; rw [nrS_row h s, h]
def nrr (σ : MS) (f : Nat → Nat) (k : Nat) : Nat := (nrS σ f k 4).toNatClampNeg
theorem nrS_or {σ : MS} {f : Nat → Nat} {k : Nat} (ho : hOK σ) (hk : k < 36) : ∀ s, s ≤ 4 → nrS σ f k s = -1 ∨ ∃ d, d < 36 ∧ nrS σ f k s = nI d ∧ f d + 1 = f k
  | 0, _ => Or.inl rfl
  | s + 1, h => by
    unfold nrS
    split
    · rename_i q
      exact Or.inr ⟨_, stp_lt hk (ho k s hk (by omega) q.1.1) (by omega), rfl, q.1.2⟩
    · exact nrS_or ho hk s (by omega)
theorem nrS_hit {σ : MS} {f : Nat → Nat} {k s : Nat} (ho : hOK σ) (hk : k < 36) (hs : s < 4) (h1 : hb σ k s) (h2 : f (stp k s) + 1 = f k) : ∀ n, s + 1 + n ≤ 4 → ¬ nrS σ f k (s + 1 + n) = -1
  | 0, _ => by
    show ¬ nrS σ f k (s + 1) = -1
    unfold nrS
    have h36 := stp_lt hk (ho k s hk hs h1) hs
    split
    · exact nI_m1 h36
    · rename_i q
      intro z
      exact q ⟨⟨h1, h2⟩, Or.inl z⟩
  | n + 1, h => by
    show ¬ nrS σ f k (s + 1 + n + 1) = -1
    unfold nrS
    have ih := nrS_hit ho hk hs h1 h2 n (by omega)
    split
    · rename_i q
      exact nI_m1 (stp_lt hk (ho k _ hk (by omega) q.1.1) (by omega))
    · exact ih
theorem nrr_ok {σ : MS} {t : Int32} {f : Nat → Nat} (ho : hOK σ) (hf : isD σ t f) {k : Nat} (hk : k < 36) (h0 : 0 < f k) (h1 : f k < 36) : nrS σ f k 4 = nI (nrr σ f k) ∧ nrr σ f k < 36 ∧ f (nrr σ f k) + 1 = f k := by
  obtain ⟨-, s, hs, hh, he⟩ := isD_next ho hf hk h0 h1
  have h2 := nrS_hit (f := f) ho hk hs hh (by omega) (3 - s) (by omega)
  rw [show s + 1 + (3 - s) = 4 from by omega] at h2
  obtain ⟨d, d1, d2, d3⟩ := (nrS_or ho hk 4 (Nat.le_refl _)).resolve_left h2
  have e : nrr σ f k = d := by unfold nrr; rw [d2]; exact nI_clamp (by omega)
  rw [e]
  exact ⟨d2, d1, d3⟩
theorem near_t {σ : MS} {f : Nat → Nat} {k s : Nat} (ho : hOK σ) (hk : k < 36) (hs : s < 4) (hle : ∀ i, i < 36 → f i ≤ 36) (h33 : ∀ i, i < 36 → σ.2 33 i = nI (f i)) (q : ¬ bynd σ k s = -1) (h : σ.2 33 (bynd σ k s).toNatClampNeg = σ.2 33 (nI k).toNatClampNeg - 1) : (1 : Int32) = if hb σ k s ∧ f (stp k s) + 1 = f k then 1 else 0 := by
  obtain ⟨q1, q2, q3⟩ := bynd_hb hk hs ho q
  rw [q2, nI_clamp (n := stp k s) (by omega), nI_clamp (n := k) (by omega), h33 _ q3, h33 _ hk] at h
  have h1 := hle k hk
  have h2 := hle _ q3
  have h3 : nI (f (stp k s)) + 1 = nI (f k) := by rw [h, Int32.sub_add_cancel]
  rw [nI_1] at h3
  rw [if_pos ⟨q1, (nI_eq (by omega) (by omega)).mp h3⟩]
theorem near_f {σ : MS} {f : Nat → Nat} {k s : Nat} (ho : hOK σ) (hk : k < 36) (hs : s < 4) (hle : ∀ i, i < 36 → f i ≤ 36) (h33 : ∀ i, i < 36 → σ.2 33 i = nI (f i)) (q : ¬ bynd σ k s = -1) (h : ¬ σ.2 33 (bynd σ k s).toNatClampNeg = σ.2 33 (nI k).toNatClampNeg - 1) : (0 : Int32) = if hb σ k s ∧ f (stp k s) + 1 = f k then 1 else 0 := by
  obtain ⟨q1, q2, q3⟩ := bynd_hb hk hs ho q
  rw [q2, nI_clamp (n := stp k s) (by omega), nI_clamp (n := k) (by omega), h33 _ q3, h33 _ hk] at h
  rw [if_neg (fun z => h (by rw [← z.2, ← nI_1, Int32.add_sub_cancel]))]
theorem near_n {σ : MS} {f : Nat → Nat} {k s : Nat} (ho : hOK σ) (hk : k < 36) (hs : s < 4) (q : bynd σ k s = -1) : (0 : Int32) = if hb σ k s ∧ f (stp k s) + 1 = f k then 1 else 0 := by
  rw [if_neg (fun z => bynd_nhb hk hs ho q z.1)]
theorem nrS_y {σ : MS} {f : Nat → Nat} {k s : Nat} (ho : hOK σ) (hk : k < 36) (hs : s < 4) {x : Int32} (hx : x = if hb σ k s ∧ f (stp k s) + 1 = f k then 1 else 0) (h0 : ¬ x = 0) (h : nrS σ f k s = -1 ∨ bynd σ k s < nrS σ f k s) : bynd σ k s = nrS σ f k (s + 1) := by
  by_cases q : hb σ k s ∧ f (stp k s) + 1 = f k
  · rw [bynd_yes q.1] at h ⊢
    unfold nrS
    rw [if_pos ⟨q, h⟩]
  · rw [if_neg q] at hx; exact absurd hx h0
theorem nrS_n {σ : MS} {f : Nat → Nat} {k s : Nat} {x : Int32} (hx : x = if hb σ k s ∧ f (stp k s) + 1 = f k then 1 else 0) (h0 : x = 0 ∨ (¬ nrS σ f k s = -1 ∧ ¬ bynd σ k s < nrS σ f k s)) : nrS σ f k s = nrS σ f k (s + 1) := by
  show _ = if (hb σ k s ∧ f (stp k s) + 1 = f k) ∧ (nrS σ f k s = -1 ∨ nI (stp k s) < nrS σ f k s) then nI (stp k s) else nrS σ f k s
  rw [if_neg]
  intro z
  rw [if_pos z.1] at hx
  rcases h0 with h0 | ⟨h1, h2⟩
  · rw [h0] at hx; cases hx
  · rw [bynd_yes z.1.1] at h2
    exact z.2.elim h1 h2
set_option maxRecDepth 20000 in
theorem c_X9_nearer {w : W0} {m : Nat} {iv : Nat → Nat} {h : AH} {σ : MS} {c : Int32} (hm : MOK m iv h) (ho : hOK σ) {f : Nat → Nat} {k : Nat} (hk : k < 36) (hle : ∀ i, i < 36 → f i ≤ 36) (h33 : ∀ i, i < 36 → σ.2 33 i = nI (f i)) (ec : c = nI k) : CM w yX9_nearer mX9_nearer m iv h [c] σ (fun r σ' => r = some (nrS σ f k 4) ∧ σ' = σ) := by
  refine CM_of mcX9_nearer (Nat.le_of_ble_eq_true rfl) ?_
  subst ec
  have loop4 : ∀ (n s : Nat) (x4 x5 : Option MV), s ≤ 4 → 4 ≤ n + s → XM w mX9_nearer m iv h (fun r σ' => r = some (nrS σ f k 4) ∧ σ' = σ) 4 [some (.inr 0), some (.inl (nI k)), some (.inl (nrS σ f k s)), some (.inl (pw s)), x4, x5] [] σ := by
    intro n
    induction n with
    | zero =>
      intro s x4 x5 hs1 hs2
      have hex : 9 ≤ pw s → s = 4 := (pw_9 hs1).mp
      have hlt : ¬ 9 ≤ pw s → s < 4 := fun z => by have : s ≠ 4 := fun q => z ((pw_9 hs1).mpr q); omega
      refine runM_go rkX9_nearer hm (fun p => Nat.beq p 4 || Nat.beq p 47 || Nat.beq p 71) 200 ?_
      refine And.intro (fun c0 => ?_) (fun c0 => ?_)
      · skip
        have hs := hex ‹_›
        subst hs
        exact ⟨rfl, rfl⟩
      · exact absurd (hlt c0) (by omega)
    | succ n ih =>
      intro s x4 x5 hs1 hs2
      have hex : 9 ≤ pw s → s = 4 := (pw_9 hs1).mp
      have hlt : ¬ 9 ≤ pw s → s < 4 := fun z => by have : s ≠ 4 := fun q => z ((pw_9 hs1).mpr q); omega
      have K71 : ∀ x5 x : Int32, s < 4 → x = nrS σ f k (s + 1) → XM w mX9_nearer m iv h (fun r σ' => r = some (nrS σ f k 4) ∧ σ' = σ) 71 [some (.inr 0), some (.inl (nI k)), some (.inl (nrS σ f k s)), some (.inl (pw s)), some (.inl (bynd σ k s)), some (.inl x5)] [.inl x] σ := by
        intro x5 x hs4 hx
        subst hx
        refine runM_go rkX9_nearer hm (fun p => Nat.beq p 4 || Nat.beq p 47 || Nat.beq p 71) 200 ?_
        have e9 := ih (s + 1) (some (.inl (bynd σ k s))) (some (.inl x5)) (by omega) (by omega)
        rw [← pw_2 hs4] at e9
        exact e9
      have K47 : ∀ x : Int32, s < 4 → x = (if hb σ k s ∧ f (stp k s) + 1 = f k then 1 else 0) → XM w mX9_nearer m iv h (fun r σ' => r = some (nrS σ f k 4) ∧ σ' = σ) 47 [some (.inr 0), some (.inl (nI k)), some (.inl (nrS σ f k s)), some (.inl (pw s)), some (.inl (bynd σ k s)), x5] [.inl x] σ := by
        intro x hs4 hx
        refine runM_go rkX9_nearer hm (fun p => Nat.beq p 4 || Nat.beq p 47 || Nat.beq p 71) 200 ?_
        refine And.intro (fun c1 => ?_) (fun c1 => ?_)
        · try simp only [b01_eq, b01_ne, Classical.not_not, upS_row] at c1
          first
          | exact K71 _ _ hs4 (nrS_y ho hk hs4 hx ‹_› (Or.inl ‹_›))
          | exact K71 _ _ hs4 (nrS_y ho hk hs4 hx ‹_› (Or.inr (Int32.not_le.mp ‹_›)))
          | exact K71 _ _ hs4 (nrS_n hx (Or.inl ‹_›))
          | exact K71 _ _ hs4 (nrS_n hx (Or.inr ⟨‹_›, fun z => Int32.not_le.mpr z ‹_›⟩))
        · try simp only [b01_eq, b01_ne, Classical.not_not, upS_row] at c1
          refine And.intro (fun c2 => ?_) (fun c2 => ?_)
          · try simp only [b01_eq, b01_ne, Classical.not_not, upS_row] at c2
            first
            | exact K71 _ _ hs4 (nrS_y ho hk hs4 hx ‹_› (Or.inl ‹_›))
            | exact K71 _ _ hs4 (nrS_y ho hk hs4 hx ‹_› (Or.inr (Int32.not_le.mp ‹_›)))
            | exact K71 _ _ hs4 (nrS_n hx (Or.inl ‹_›))
            | exact K71 _ _ hs4 (nrS_n hx (Or.inr ⟨‹_›, fun z => Int32.not_le.mpr z ‹_›⟩))
          · try simp only [b01_eq, b01_ne, Classical.not_not, upS_row] at c2
            refine And.intro (fun c3 => ?_) (fun c3 => ?_)
            · try simp only [b01_eq, b01_ne, Classical.not_not, upS_row] at c3
              first
              | exact K71 _ _ hs4 (nrS_y ho hk hs4 hx ‹_› (Or.inl ‹_›))
              | exact K71 _ _ hs4 (nrS_y ho hk hs4 hx ‹_› (Or.inr (Int32.not_le.mp ‹_›)))
              | exact K71 _ _ hs4 (nrS_n hx (Or.inl ‹_›))
              | exact K71 _ _ hs4 (nrS_n hx (Or.inr ⟨‹_›, fun z => Int32.not_le.mpr z ‹_›⟩))
            · try simp only [b01_eq, b01_ne, Classical.not_not, upS_row] at c3
              first
              | exact K71 _ _ hs4 (nrS_y ho hk hs4 hx ‹_› (Or.inl ‹_›))
              | exact K71 _ _ hs4 (nrS_y ho hk hs4 hx ‹_› (Or.inr (Int32.not_le.mp ‹_›)))
              | exact K71 _ _ hs4 (nrS_n hx (Or.inl ‹_›))
              | exact K71 _ _ hs4 (nrS_n hx (Or.inr ⟨‹_›, fun z => Int32.not_le.mpr z ‹_›⟩))
      refine runM_go rkX9_nearer hm (fun p => Nat.beq p 4 || Nat.beq p 47 || Nat.beq p 71) 200 ?_
      refine And.intro (fun c4 => ?_) (fun c4 => ?_)
      · try simp only [b01_eq, b01_ne, Classical.not_not, upS_row] at c4
        have hs := hex ‹_›
        subst hs
        exact ⟨rfl, rfl⟩
      · try simp only [b01_eq, b01_ne, Classical.not_not, upS_row] at c4
        refine qX9_nearer_13 hm rfl (c_X9_beyond hm ho hk (hlt ‹_›) rfl rfl) (fun r σ1 hq => ?_)
        obtain ⟨rfl, rfl⟩ := hq
        refine runM_ok rkX9_nearer hm (fun p => Nat.beq p 4 || Nat.beq p 47 || Nat.beq p 71) 200 _ _ _ _ ?_
        refine And.intro (fun c5 => ?_) (fun c5 => ?_)
        · try simp only [b01_eq, b01_ne, Classical.not_not, upS_row] at c5
          first
          | exact K47 _ (hlt ‹_›) (near_n ho hk (hlt ‹_›) ‹_›)
          | exact K47 _ (hlt ‹_›) (near_t ho hk (hlt ‹_›) hle h33 ‹_› ‹_›)
          | exact K47 _ (hlt ‹_›) (near_f ho hk (hlt ‹_›) hle h33 ‹_› ‹_›)
        · try simp only [b01_eq, b01_ne, Classical.not_not, upS_row] at c5
          refine And.intro (by have q := bynd_hb hk (hlt ‹_›) ho ‹_›; rw [q.2.1]; exact vp_in_nI (N := 36) q.2.2 (by decide)) ?_
          refine And.intro (vp_in_nI (N := 36) hk (by decide)) ?_
          refine And.intro (fun c6 => ?_) (fun c6 => ?_)
          · try simp only [b01_eq, b01_ne, Classical.not_not, upS_row] at c6
            first
            | exact K47 _ (hlt ‹_›) (near_n ho hk (hlt ‹_›) ‹_›)
            | exact K47 _ (hlt ‹_›) (near_t ho hk (hlt ‹_›) hle h33 ‹_› ‹_›)
            | exact K47 _ (hlt ‹_›) (near_f ho hk (hlt ‹_›) hle h33 ‹_› ‹_›)
          · try simp only [b01_eq, b01_ne, Classical.not_not, upS_row] at c6
            first
            | exact K47 _ (hlt ‹_›) (near_n ho hk (hlt ‹_›) ‹_›)
            | exact K47 _ (hlt ‹_›) (near_t ho hk (hlt ‹_›) hle h33 ‹_› ‹_›)
            | exact K47 _ (hlt ‹_›) (near_f ho hk (hlt ‹_›) hle h33 ‹_› ‹_›)
  refine runM_ok rkX9_nearer hm (fun p => Nat.beq p 4 || Nat.beq p 47 || Nat.beq p 71) 200 _ _ _ _ ?_
  exact loop4 4 0 none none (by omega) (by omega)

/-- the cells of the way, in their order -/
def pth (σ : MS) (f : Nat → Nat) (a : Nat) : Nat → Nat
  | 0 => a
  | p + 1 => nrr σ f (pth σ f a p)
theorem pth_ok {σ : MS} {t : Int32} {f : Nat → Nat} {a : Nat} (ho : hOK σ) (hf : isD σ t f) (ha : a < 36) (hl : f a < 36) : ∀ p, p ≤ f a → pth σ f a p < 36 ∧ f (pth σ f a p) + p = f a
  | 0, _ => ⟨ha, rfl⟩
  | p + 1, h => by
    obtain ⟨h1, h2⟩ := pth_ok ho hf ha hl p (by omega)
    obtain ⟨-, h4, h5⟩ := nrr_ok ho hf h1 (by omega) (by omega)
    exact ⟨h4, by show f (nrr σ f (pth σ f a p)) + (p + 1) = f a; omega⟩
/-- the state when p cells of the way are written: g the cells -/
def sPt (σ : MS) (g : Nat → Nat) : Nat → MS
  | 0 => σ
  | p + 1 => upA (upA (sPt σ g p) 32 (36 * σ.1 30 + nI p).toNatClampNeg (nI (g p))) 28 (g p) ((sPt σ g p).2 28 (g p) + 1)
theorem sPt_num (σ : MS) (g : Nat → Nat) : ∀ p, (sPt σ g p).1 = σ.1
  | 0 => rfl
  | p + 1 => sPt_num σ g p
theorem sPt_row {σ : MS} {g : Nat → Nat} {j : Nat} (h1 : j ≠ 32) (h2 : j ≠ 28) : ∀ p, (sPt σ g p).2 j = σ.2 j
  | 0 => rfl
  | p + 1 => by
    have ih := sPt_row (σ := σ) (g := g) h1 h2 p
    funext i
    show (if j = 28 ∧ i = _ then _ else if j = 32 ∧ i = _ then _ else (sPt σ g p).2 j i) = _
    rw [if_neg (fun z => h2 z.1), if_neg (fun z => h1 z.1), ih]
abbrev rm2 (σ : MS) (a b : Int32) : Prop := (isRm σ a ∧ isRm σ b) ∧ ¬ a = b
def wSt (σ : MS) (a b : Int32) : MS := if rm2 σ a b then sFn σ (dst σ b) 36 else σ
def kPip (σ : MS) (a b : Int32) : Int32 := if isRm σ a ∧ isRm σ b then if ¬ a = b then if ¬ σ.1 30 = 30 ∧ dst σ b a.toNatClampNeg < 36 then 0 else 3 else 2 else 1
def sPip (σ : MS) (a b : Int32) : MS :=
  upS (upA (sPt (upS (sFn σ (dst σ b) 36) 34 0) (pth σ (dst σ b) a.toNatClampNeg) (dst σ b a.toNatClampNeg + 1)) 31 (σ.1 30).toNatClampNeg (nI (dst σ b a.toNatClampNeg + 1))) 30 (σ.1 30 + 1)
def mPip (σ : MS) (a b : Int32) : Int32 × MS := if kPip σ a b = 0 then (nI (dst σ b a.toNatClampNeg + 1), sPip σ a b) else (0, upS (wSt σ a b) 34 (kPip σ a b))
theorem wSt_num (σ : MS) (a b : Int32) : (wSt σ a b).1 = σ.1 := by unfold wSt; split <;> rfl
theorem nI_mul (a b : Nat) : nI a * nI b = nI (a * b) := (Int32.ofNat_mul a b).symm
theorem px {np p : Nat} : 36 * nI np + nI p = nI (36 * np + p) := by rw [show (36 : Int32) = nI 36 from rfl, nI_mul, nI_add]
theorem k0_of {σ : MS} {a b : Int32} (h : kPip σ a b = 0) : rm2 σ a b ∧ ¬ σ.1 30 = 30 ∧ dst σ b a.toNatClampNeg < 36 := by unfold kPip at h; grind
theorem wSt_33 {σ : MS} {a b : Int32} (h : rm2 σ a b) : ((wSt σ a b).2 33 a.toNatClampNeg < 36 ↔ dst σ b a.toNatClampNeg < 36) := by
  have ha : a.toNatClampNeg < 36 := lt_of_in (in_c (c := 35) (by decide) h.1.1.1)
  have hl : dst σ b a.toNatClampNeg ≤ 36 := Nat.le_trans (rA_le 36 _) (f0_le _)
  unfold wSt
  rw [if_pos h, sFn_33 ha]
  exact nI_ltI (b := 36) (by omega) (by decide)

theorem sPt_29 {σ : MS} {b : Int32} {g : Nat → Nat} (p : Nat) : (sPt (upS (sFn σ (dst σ b) 36) 34 0) g p).2 29 = σ.2 29 := by
  rw [sPt_row (by decide) (by decide)]
  exact sFn_row (σ := σ) (f := dst σ b) (n := 36) (j := 29) (by decide)
set_option maxRecDepth 20000 in
theorem c_X9_pipe {w : W0} {m : Nat} {iv : Nat → Nat} {h : AH} {σ : MS} {a b : Int32} (hm : MOK m iv h) (ho : hOK σ) {np : Nat} (hnp : np ≤ 30) (ep : σ.1 30 = nI np) : CM w yX9_pipe mX9_pipe m iv h [a, b] σ (fun r σ' => r = some (mPip σ a b).1 ∧ σ' = (mPip σ a b).2) := by
  refine CM_of mcX9_pipe (Nat.le_of_ble_eq_true rfl) ?_
  have K99 : ∀ x3 x4 : Int32, kPip σ a b = 0 → XM w mX9_pipe m iv h (fun r σ' => r = some (mPip σ a b).1 ∧ σ' = (mPip σ a b).2) 99 [some (.inr 0), some (.inl a), some (.inl b), some (.inl x3), some (.inl x4), none, none] [] (upS (sFn σ (dst σ b) 36) 34 0) := by
    intro x3 x4 hk0
    obtain ⟨hr, hn30, hF⟩ := k0_of hk0
    have ha : vp_in a 36 := in_c (c := 35) (by decide) hr.1.1.1
    have ha36 : a.toNatClampNeg < 36 := lt_of_in ha
    have ea : a = nI a.toNatClampNeg := in_n ha
    have hD := dst_isD (t := b) ho
    have hpt := pth_ok ho hD ha36 hF
    have hnp2 : np < 30 := by have : np ≠ 30 := (fun q => hn30 (by rw [ep, q]; rfl)); omega
    have K167 : ∀ x6 : Int32, XM w mX9_pipe m iv h (fun r σ' => r = some (mPip σ a b).1 ∧ σ' = (mPip σ a b).2) 167 [some (.inr 0), some (.inl a), some (.inl b), some (.inl x3), some (.inl x4), some (.inl (nI ((dst σ b a.toNatClampNeg) + 1))), some (.inl x6)] [] (sPt (upS (sFn σ (dst σ b) 36) 34 0) (pth σ (dst σ b) a.toNatClampNeg) ((dst σ b a.toNatClampNeg) + 1)) := by
      intro x6
      refine runM_go rkX9_pipe hm (fun p => Nat.beq p 21 || Nat.beq p 36 || Nat.beq p 48 || Nat.beq p 91 || Nat.beq p 105 || Nat.beq p 162 || Nat.beq p 167) 200 ?_
      refine And.intro (by rw [sPt_num]; show vp_in (σ.1 30) 30; rw [ep]; exact vp_in_nI hnp2 (by decide)) ?_
      refine eP ?_
      unfold mPip sPip
      rw [if_pos hk0]
      have eN : ∀ i v, (upA (sPt (upS (sFn σ (dst σ b) 36) 34 0) (pth σ (dst σ b) a.toNatClampNeg) ((dst σ b a.toNatClampNeg) + 1)) 31 i v).1 30 = σ.1 30 := fun _ _ => by show (sPt (upS (sFn σ (dst σ b) 36) 34 0) (pth σ (dst σ b) a.toNatClampNeg) ((dst σ b a.toNatClampNeg) + 1)).1 30 = _; rw [sPt_num]; rfl
      simp only [sPt_num, eN]
      rfl
    have loop105 : ∀ n p : Nat, p + n = (dst σ b a.toNatClampNeg) → XM w mX9_pipe m iv h (fun r σ' => r = some (mPip σ a b).1 ∧ σ' = (mPip σ a b).2) 105 [some (.inr 0), some (.inl a), some (.inl b), some (.inl x3), some (.inl x4), some (.inl (nI p)), some (.inl (nI ((pth σ (dst σ b) a.toNatClampNeg) p)))] [] (sPt (upS (sFn σ (dst σ b) 36) 34 0) (pth σ (dst σ b) a.toNatClampNeg) p) := by
      intro n
      induction n with
      | zero =>
        intro p hp
        obtain ⟨h1, h2⟩ := hpt p (by omega)
        have ec : (nI ((pth σ (dst σ b) a.toNatClampNeg) p)).toNatClampNeg = (pth σ (dst σ b) a.toNatClampNeg) p := nI_clamp (by omega)
        have h36 : vp_in (nI ((pth σ (dst σ b) a.toNatClampNeg) p)) 36 := vp_in_nI h1 (by decide)
        have hd36 := (hD _ h1).1
        have h33 : (sPt (upS (sFn σ (dst σ b) 36) 34 0) (pth σ (dst σ b) a.toNatClampNeg) (p + 1)).2 33 ((pth σ (dst σ b) a.toNatClampNeg) p) = nI (dst σ b ((pth σ (dst σ b) a.toNatClampNeg) p)) := by rw [sPt_row (by decide) (by decide)]; exact sFn_33 h1
        have epx : (upS (sFn σ (dst σ b) 36) 34 0).1 30 = σ.1 30 := rfl
        refine runM_go rkX9_pipe hm (fun p => Nat.beq p 21 || Nat.beq p 36 || Nat.beq p 48 || Nat.beq p 91 || Nat.beq p 105 || Nat.beq p 162 || Nat.beq p 167) 200 ?_
        refine And.intro (fun c0 => absurd c0 (nI_m1 h1)) (fun _ => ?_)
        refine And.intro (by rw [sPt_num, epx, ep, px]; exact vp_in_nI (N := 1080) (by omega) (by decide)) ?_
        refine And.intro h36 ?_
        refine And.intro h36 ?_
        refine And.intro h36 ?_
        skip
        refine And.intro (fun c1 => ?_) (fun c1 => ?_)
        · skip
          exfalso
          refine c1 ?_
          rw [ec, sPt_num]
          refine Eq.trans h33 ?_
          rw [show dst σ b ((pth σ (dst σ b) a.toNatClampNeg) p) = 0 from by omega]; rfl
        · skip
          show XM w mX9_pipe m iv h (fun r σ' => r = some (mPip σ a b).1 ∧ σ' = (mPip σ a b).2) 162 [some (.inr 0), some (.inl a), some (.inl b), some (.inl x3), some (.inl x4), some (.inl (nI p + 1)), some (.inl (nI ((pth σ (dst σ b) a.toNatClampNeg) p)))] [.inl (-1)] _
          refine runM_go rkX9_pipe hm (fun p => Nat.beq p 21 || Nat.beq p 36 || Nat.beq p 48 || Nat.beq p 91 || Nat.beq p 105 || Nat.beq p 162 || Nat.beq p 167) 200 ?_
          refine runM_go rkX9_pipe hm (fun p => Nat.beq p 21 || Nat.beq p 36 || Nat.beq p 48 || Nat.beq p 91 || Nat.beq p 105 || Nat.beq p 162 || Nat.beq p 167) 200 ?_
          refine And.intro (fun _ => ?_) (fun c0 => absurd rfl c0)
          have e9 := K167 (-1)
          rw [← hp, Nat.add_zero, ← nI_1 p] at e9
          rw [ec, sPt_num]
          exact e9
      | succ n ih =>
        intro p hp
        obtain ⟨h1, h2⟩ := hpt p (by omega)
        have ec : (nI ((pth σ (dst σ b) a.toNatClampNeg) p)).toNatClampNeg = (pth σ (dst σ b) a.toNatClampNeg) p := nI_clamp (by omega)
        have h36 : vp_in (nI ((pth σ (dst σ b) a.toNatClampNeg) p)) 36 := vp_in_nI h1 (by decide)
        have hd36 := (hD _ h1).1
        have h33 : (sPt (upS (sFn σ (dst σ b) 36) 34 0) (pth σ (dst σ b) a.toNatClampNeg) (p + 1)).2 33 ((pth σ (dst σ b) a.toNatClampNeg) p) = nI (dst σ b ((pth σ (dst σ b) a.toNatClampNeg) p)) := by rw [sPt_row (by decide) (by decide)]; exact sFn_33 h1
        have epx : (upS (sFn σ (dst σ b) 36) 34 0).1 30 = σ.1 30 := rfl
        refine runM_go rkX9_pipe hm (fun p => Nat.beq p 21 || Nat.beq p 36 || Nat.beq p 48 || Nat.beq p 91 || Nat.beq p 105 || Nat.beq p 162 || Nat.beq p 167) 200 ?_
        refine And.intro (fun c0 => absurd c0 (nI_m1 h1)) (fun _ => ?_)
        refine And.intro (by rw [sPt_num, epx, ep, px]; exact vp_in_nI (N := 1080) (by omega) (by decide)) ?_
        refine And.intro h36 ?_
        refine And.intro h36 ?_
        refine And.intro h36 ?_
        skip
        refine And.intro (fun c1 => ?_) (fun c1 => ?_)
        · skip
          rw [ec, sPt_num]
          refine qX9_pipe_159 (σ := (sPt (upS (sFn σ (dst σ b) 36) 34 0) (pth σ (dst σ b) a.toNatClampNeg) (p + 1))) hm rfl (show CM w yX9_nearer mX9_nearer m iv h [nI ((pth σ (dst σ b) a.toNatClampNeg) p)] (sPt (upS (sFn σ (dst σ b) 36) 34 0) (pth σ (dst σ b) a.toNatClampNeg) (p + 1)) (fun r σ' => r = some (nrS σ (dst σ b) ((pth σ (dst σ b) a.toNatClampNeg) p) 4) ∧ σ' = (sPt (upS (sFn σ (dst σ b) 36) 34 0) (pth σ (dst σ b) a.toNatClampNeg) (p + 1))) from nrS_row (sPt_29 _) 4 ▸ c_X9_nearer hm (hOK_row (sPt_29 _) ho) h1 (fun i hi => (hD i hi).1) (fun i hi => by rw [sPt_row (by decide) (by decide)]; exact sFn_33 hi) rfl) (fun r σ1 hq => ?_)
          obtain ⟨rfl, rfl⟩ := hq
          refine runM_go rkX9_pipe hm (fun p => Nat.beq p 21 || Nat.beq p 36 || Nat.beq p 48 || Nat.beq p 91 || Nat.beq p 105 || Nat.beq p 162 || Nat.beq p 167) 200 ?_
          have hnr := nrr_ok ho hD h1 (by omega) (by omega)
          rw [hnr.1]
          have e9 := ih (p + 1) (by omega)
          rw [← nI_1 p] at e9
          exact e9
        · skip
          exfalso
          rw [ec, sPt_num] at c1
          have c2 := h33.symm.trans c1
          exact nI_ne0 (by omega) (by omega) c2
    refine runM_go rkX9_pipe hm (fun p => Nat.beq p 21 || Nat.beq p 36 || Nat.beq p 48 || Nat.beq p 91 || Nat.beq p 105 || Nat.beq p 162 || Nat.beq p 167) 200 ?_
    have e9 := loop105 (dst σ b a.toNatClampNeg) 0 (by omega)
    rw [show nI ((pth σ (dst σ b) a.toNatClampNeg) 0) = a from ea.symm] at e9
    exact e9
  have K91 : ∀ x3 x4 x : Int32, x = kPip σ a b → XM w mX9_pipe m iv h (fun r σ' => r = some (mPip σ a b).1 ∧ σ' = (mPip σ a b).2) 91 [some (.inr 0), some (.inl a), some (.inl b), some (.inl x3), some (.inl x4), none, none] [.inl x, .inr 0] (wSt σ a b) := by
    intro x3 x4 x hx
    have h01 : x = 0 ∨ 0 < x := by unfold kPip at hx; grind
    refine qX9_pipe_91 hm rfl (c_X9_fails hm) (fun r σ1 hq => ?_)
    obtain ⟨rfl, rfl⟩ := hq
    refine runM_ok rkX9_pipe hm (fun p => Nat.beq p 21 || Nat.beq p 36 || Nat.beq p 48 || Nat.beq p 91 || Nat.beq p 105 || Nat.beq p 162 || Nat.beq p 167 || Nat.beq p 99) 200 _ _ _ _ ?_
    refine And.intro (fun c1 => ?_) (fun c1 => ?_)
    · try simp only [b01_eq, b01_ne, Classical.not_not, upS_row] at c1
      have h0 : x = 0 := by grind
      subst h0
      have e9 := K99 x3 x4 hx.symm
      rw [show (wSt σ a b) = sFn σ (dst σ b) 36 from if_pos (k0_of hx.symm).1]
      exact e9
    · try simp only [b01_eq, b01_ne, Classical.not_not, upS_row] at c1
      refine eP ?_; unfold mPip; rw [if_neg (by grind), ← hx]
  have K48 : ∀ x3 x4 : Int32, x3 = (if (isRm σ a ∧ isRm σ b) then 1 else 0) → x4 = (if (isRm σ a ∧ isRm σ b) ∧ ¬ a = b then 1 else 0) → XM w mX9_pipe m iv h (fun r σ' => r = some (mPip σ a b).1 ∧ σ' = (mPip σ a b).2) 48 [some (.inr 0), some (.inl a), some (.inl b), some (.inl x3), some (.inl x4), none, none] [] (wSt σ a b) := by
    intro x3 x4 hx3 hx4
    have hw : (isRm σ a ∧ isRm σ b) ∧ ¬ a = b → ((wSt σ a b).2 33 a.toNatClampNeg < 36 ↔ dst σ b a.toNatClampNeg < 36) := fun h => wSt_33 (σ := σ) (a := a) (b := b) h
    have hn : (wSt σ a b).1 30 = σ.1 30 := by rw [wSt_num]
    refine runM_go rkX9_pipe hm (fun p => Nat.beq p 21 || Nat.beq p 36 || Nat.beq p 48 || Nat.beq p 91 || Nat.beq p 105 || Nat.beq p 162 || Nat.beq p 167 || Nat.beq p 99) 200 ?_
    refine And.intro (fun c2 => ?_) (fun c2 => ?_)
    · try simp only [b01_eq, b01_ne, Classical.not_not, upS_row] at c2
      refine And.intro (fun c3 => ?_) (fun c3 => ?_)
      · try simp only [b01_eq, b01_ne, Classical.not_not, upS_row] at c3
        refine And.intro (fun c4 => ?_) (fun c4 => ?_)
        · try simp only [b01_eq, b01_ne, Classical.not_not, upS_row] at c4
          exact K91 _ _ _ (by unfold kPip; grind)
        · try simp only [b01_eq, b01_ne, Classical.not_not, upS_row] at c4
          refine And.intro (in_c (c := 35) (by decide) (by grind)) ?_
          refine And.intro (fun c5 => ?_) (fun c5 => ?_)
          · try simp only [b01_eq, b01_ne, Classical.not_not, upS_row] at c5
            exact K91 _ _ _ (by unfold kPip; grind)
          · try simp only [b01_eq, b01_ne, Classical.not_not, upS_row] at c5
            exact K91 _ _ _ (by unfold kPip; grind)
      · try simp only [b01_eq, b01_ne, Classical.not_not, upS_row] at c3
        exact K91 _ _ _ (by unfold kPip; grind)
    · try simp only [b01_eq, b01_ne, Classical.not_not, upS_row] at c2
      exact K91 _ _ _ (by unfold kPip; grind)
  have K36 : ∀ x3 x : Int32, x3 = (if (isRm σ a ∧ isRm σ b) then 1 else 0) → x = (if (isRm σ a ∧ isRm σ b) ∧ ¬ a = b then 1 else 0) → XM w mX9_pipe m iv h (fun r σ' => r = some (mPip σ a b).1 ∧ σ' = (mPip σ a b).2) 36 [some (.inr 0), some (.inl a), some (.inl b), some (.inl x3), none, none, none] [.inl x] σ := by
    intro x3 x hx3 hx
    refine runM_go rkX9_pipe hm (fun p => Nat.beq p 21 || Nat.beq p 36 || Nat.beq p 48 || Nat.beq p 91 || Nat.beq p 105 || Nat.beq p 162 || Nat.beq p 167 || Nat.beq p 99) 200 ?_
    refine And.intro (fun c6 => ?_) (fun c6 => ?_)
    · try simp only [b01_eq, b01_ne, Classical.not_not, upS_row] at c6
      first
      | (have e9 := K48 x3 _ hx3 hx; rw [show (wSt σ a b) = sFn σ (dst σ b) 36 from if_pos (by grind)] at e9; exact e9)
      | (have e9 := K48 x3 _ hx3 hx; rw [show (wSt σ a b) = σ from if_neg (by grind)] at e9; exact e9)
    · try simp only [b01_eq, b01_ne, Classical.not_not, upS_row] at c6
      refine qX9_pipe_45 hm rfl (c_X9_ways hm ho) (fun r σ1 hq => ?_)
      obtain ⟨rfl, rfl⟩ := hq
      first
      | (have e9 := K48 x3 _ hx3 hx; rw [show (wSt σ a b) = sFn σ (dst σ b) 36 from if_pos (by grind)] at e9; exact e9)
      | (have e9 := K48 x3 _ hx3 hx; rw [show (wSt σ a b) = σ from if_neg (by grind)] at e9; exact e9)
  have K21 : ∀ x : Int32, x = (if (isRm σ a ∧ isRm σ b) then 1 else 0) → XM w mX9_pipe m iv h (fun r σ' => r = some (mPip σ a b).1 ∧ σ' = (mPip σ a b).2) 21 [some (.inr 0), some (.inl a), some (.inl b), none, none, none, none] [.inl x] σ := by
    intro x hx
    refine runM_go rkX9_pipe hm (fun p => Nat.beq p 21 || Nat.beq p 36 || Nat.beq p 48 || Nat.beq p 91 || Nat.beq p 105 || Nat.beq p 162 || Nat.beq p 167 || Nat.beq p 99) 200 ?_
    refine And.intro (fun c7 => ?_) (fun c7 => ?_)
    · try simp only [b01_eq, b01_ne, Classical.not_not, upS_row] at c7
      exact K36 _ _ hx (by grind)
    · try simp only [b01_eq, b01_ne, Classical.not_not, upS_row] at c7
      refine And.intro (fun c8 => ?_) (fun c8 => ?_)
      · try simp only [b01_eq, b01_ne, Classical.not_not, upS_row] at c8
        exact K36 _ _ hx (by grind)
      · try simp only [b01_eq, b01_ne, Classical.not_not, upS_row] at c8
        exact K36 _ _ hx (by grind)
  refine runM_ok rkX9_pipe hm (fun p => Nat.beq p 21 || Nat.beq p 36 || Nat.beq p 48 || Nat.beq p 91 || Nat.beq p 105 || Nat.beq p 162 || Nat.beq p 167 || Nat.beq p 99) 200 _ _ _ _ ?_
  refine qX9_pipe_2 hm rfl (c_X9_isRoom hm) (fun r σ1 hq => ?_)
  obtain ⟨rfl, rfl⟩ := hq
  refine runM_ok rkX9_pipe hm (fun p => Nat.beq p 21 || Nat.beq p 36 || Nat.beq p 48 || Nat.beq p 91 || Nat.beq p 105 || Nat.beq p 162 || Nat.beq p 167 || Nat.beq p 99) 200 _ _ _ _ ?_
  refine And.intro (fun c9 => ?_) (fun c9 => ?_)
  · try simp only [b01_eq, b01_ne, Classical.not_not, upS_row] at c9
    exact K21 _ (by grind)
  · try simp only [b01_eq, b01_ne, Classical.not_not, upS_row] at c9
    refine qX9_pipe_10 hm rfl (c_X9_isRoom hm) (fun r σ1 hq => ?_)
    obtain ⟨rfl, rfl⟩ := hq
    refine runM_ok rkX9_pipe hm (fun p => Nat.beq p 21 || Nat.beq p 36 || Nat.beq p 48 || Nat.beq p 91 || Nat.beq p 105 || Nat.beq p 162 || Nat.beq p 167 || Nat.beq p 99) 200 _ _ _ _ ?_
    refine And.intro (fun c10 => ?_) (fun c10 => ?_)
    · try simp only [b01_eq, b01_ne, Classical.not_not, upS_row] at c10
      exact K21 _ (by grind)
    · try simp only [b01_eq, b01_ne, Classical.not_not, upS_row] at c10
      exact K21 _ (by grind)

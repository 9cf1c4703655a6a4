def nrS (σ : MS) (f : Nat → Nat) (k : Nat) : Nat → Int32
  | 0 => -1
  | s + 1 => if (hb σ k s ∧ f (stp k s) + 1 = f k) ∧ (nrS σ f k s = -1 ∨ nI (stp k s) < nrS σ f k s) then nI (stp k s) else nrS σ f k s
def nrr (σ : MS) (f : Nat → Nat) (k : Nat) : Nat := (nrS σ f k 4).toNatClampNeg
theorem nrS_or {σ : MS} {f : Nat → Nat} {k : Nat} (ho : hOK σ) (hk : k < 36) : ∀ s, s ≤ 4 → nrS σ f k s = -1 ∨ ∃ d, d < 36 ∧ nrS σ f k s = nI d ∧ f d + 1 = f k
  | 0, _ => Or.inl rfl
  | s + 1, h => by
    unfold nrS
    split
    · rename_i q
      exact Or.inr ⟨_, stp_lt hk (ho k s hk (by omega) q.1.1) (by omega), rfl, q.1.2⟩
    · exact nrS_or ho hk s (by omega)
theorem nrS_hit {σ : MS} {f : Nat → Nat} {k s : Nat} (ho : hOK σ) (hk : k < 36) (hs : s < 4) (h1 : hb σ k s) (h2 : f (stp k s) + 1 = f k) : ∀ n, s + 1 + n ≤ 4 → ¬ nrS σ f k (s + 1 + n) = -1
  | 0, _ => by
    show ¬ nrS σ f k (s + 1) = -1
    unfold nrS
    have h36 := stp_lt hk (ho k s hk hs h1) hs
    split
    · exact nI_m1 h36
    · rename_i q
      intro z
      exact q ⟨⟨h1, h2⟩, Or.inl z⟩
  | n + 1, h => by
    show ¬ nrS σ f k (s + 1 + n + 1) = -1
    unfold nrS
    have ih := nrS_hit ho hk hs h1 h2 n (by omega)
    split
    · rename_i q
      exact nI_m1 (stp_lt hk (ho k _ hk (by omega) q.1.1) (by omega))
    · exact ih
theorem nrr_ok {σ : MS} {t : Int32} {f : Nat → Nat} (ho : hOK σ) (hf : isD σ t f) {k : Nat} (hk : k < 36) (h0 : 0 < f k) (h1 : f k < 36) : nrS σ f k 4 = nI (nrr σ f k) ∧ nrr σ f k < 36 ∧ f (nrr σ f k) + 1 = f k := by
  obtain ⟨-, s, hs, hh, he⟩ := isD_next ho hf hk h0 h1
  have h2 := nrS_hit (f := f) ho hk hs hh (by omega) (3 - s) (by omega)
  rw [show s + 1 + (3 - s) = 4 from by omega] at h2
  obtain ⟨d, d1, d2, d3⟩ := (nrS_or ho hk 4 (Nat.le_refl _)).resolve_left h2
  have e : nrr σ f k = d := by unfold nrr; rw [d2]; exact nI_clamp (by omega)
  rw [e]
  exact ⟨d2, d1, d3⟩
/-- the cells of the way, in their order -/
def pth (σ : MS) (f : Nat → Nat) (a : Nat) : Nat → Nat
  | 0 => a
  | p + 1 => nrr σ f (pth σ f a p)
theorem pth_ok {σ : MS} {t : Int32} {f : Nat → Nat} {a : Nat} (ho : hOK σ) (hf : isD σ t f) (ha : a < 36) (hl : f a < 36) : ∀ p, p ≤ f a → pth σ f a p < 36 ∧ f (pth σ f a p) + p = f a
  | 0, _ => ⟨ha, rfl⟩
  | p + 1, h => by
    obtain ⟨h1, h2⟩ := pth_ok ho hf ha hl p (by omega)
    obtain ⟨-, h4, h5⟩ := nrr_ok ho hf h1 (by omega) (by omega)
    exact ⟨h4, by show f (nrr σ f (pth σ f a p)) + (p + 1) = f a; omega⟩
/-- the state when p cells of the way are written: g the cells -/
def sPt (σ : MS) (g : Nat → Nat) : Nat → MS
  | 0 => σ
  | p + 1 => upA (upA (sPt σ g p) 32 (36 * σ.1 30 + nI p).toNatClampNeg (nI (g p))) 28 (g p) ((sPt σ g p).2 28 (g p) + 1)
theorem sPt_num (σ : MS) (g : Nat → Nat) : ∀ p, (sPt σ g p).1 = σ.1
  | 0 => rfl
  | p + 1 => sPt_num σ g p
theorem sPt_row {σ : MS} {g : Nat → Nat} {j : Nat} (h1 : j ≠ 32) (h2 : j ≠ 28) : ∀ p, (sPt σ g p).2 j = σ.2 j
  | 0 => rfl
  | p + 1 => by
    have ih := sPt_row (σ := σ) (g := g) h1 h2 p
    funext i
    show (if j = 28 ∧ i = _ then _ else if j = 32 ∧ i = _ then _ else (sPt σ g p).2 j i) = _
    rw [if_neg (fun z => h2 z.1), if_neg (fun z => h1 z.1), ih]
abbrev rm2 (σ : MS) (a b : Int32) : Prop := (isRm σ a ∧ isRm σ b) ∧ ¬ a = b
def wSt (σ : MS) (a b : Int32) : MS := if rm2 σ a b then sFn σ (dst σ b) 36 else σ
def kPip (σ : MS) (a b : Int32) : Int32 := if isRm σ a ∧ isRm σ b then if ¬ a = b then if ¬ σ.1 30 = 30 ∧ dst σ b a.toNatClampNeg < 36 then 0 else 3 else 2 else 1
def sPip (σ : MS) (a b : Int32) : MS :=
  upS (upA (sPt (upS (sFn σ (dst σ b) 36) 34 0) (pth σ (dst σ b) a.toNatClampNeg) (dst σ b a.toNatClampNeg + 1)) 31 (σ.1 30).toNatClampNeg (nI (dst σ b a.toNatClampNeg + 1))) 30 (σ.1 30 + 1)
def mPip (σ : MS) (a b : Int32) : Int32 × MS := if kPip σ a b = 0 then (nI (dst σ b a.toNatClampNeg + 1), sPip σ a b) else (0, upS (wSt σ a b) 34 (kPip σ a b))
theorem nI_mul (a b : Nat) : nI a * nI b = nI (a * b) := (Int32.ofNat_mul a b).symm
theorem px {np p : Nat} : 36 * nI np + nI p = nI (36 * np + p) := by rw [show (36 : Int32) = nI 36 from rfl, nI_mul, nI_add]
theorem k0_of {σ : MS} {a b : Int32} (h : kPip σ a b = 0) : rm2 σ a b ∧ ¬ σ.1 30 = 30 ∧ dst σ b a.toNatClampNeg < 36 := by unfold kPip at h; grind

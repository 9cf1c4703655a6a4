/-! THE MODEL'S CONTRACTS, 10: pipe -/
def pw (s : Nat) : Int32 := if s = 0 then 1 else if s = 1 then 2 else if s = 2 then 4 else if s = 3 then 8 else 16
def stp (k s : Nat) : Nat := if s = 0 then k - 1 else if s = 1 then k + 1 else if s = 2 then k - 12 else k + 12
abbrev hb (σ : MS) (k s : Nat) : Prop := ¬ σ.2 29 k &&& pw s = 0
abbrev opn (σ : MS) (k : Nat) : Prop := ¬ 3 ≤ σ.2 28 k
def okS (k s : Nat) : Prop := (s = 0 → 1 ≤ k) ∧ (s = 1 → k < 35) ∧ (s = 2 → 12 ≤ k) ∧ (s = 3 → k < 24)
def hOK (σ : MS) : Prop := ∀ k s, k < 36 → s < 4 → hb σ k s → okS k s
theorem stp_lt {k s : Nat} (hk : k < 36) (h : okS k s) (hs : s < 4) : stp k s < 36 := by
  unfold okS at h
  unfold stp
  split
  · omega
  · split
    · omega
    · split <;> omega
theorem nI_s1 {k : Nat} (h : 1 ≤ k) : nI k - 1 = nI (k - 1) := by
  obtain ⟨j, rfl⟩ : ∃ j, k = j + 1 := ⟨k - 1, by omega⟩
  exact nI_pred j
theorem nI_s12 {k : Nat} (h : 12 ≤ k) : nI k - 12 = nI (k - 12) := by
  obtain ⟨j, rfl⟩ : ∃ j, k = j + 12 := ⟨k - 12, by omega⟩
  rw [← nI_add, show nI 12 = 12 from rfl, Int32.add_sub_cancel, Nat.add_sub_cancel]
theorem nI_12 (k : Nat) : nI k + 12 = nI (k + 12) := nI_add k 12
def rlx (σ : MS) (f : Nat → Nat) (k s : Nat) : Nat := if hb σ k s ∧ f (stp k s) + 1 < f k then f (stp k s) + 1 else f k
def rD (σ : MS) (k s : Nat) (f : Nat → Nat) : Nat → Nat := fun i => if i = k then rlx σ f k s else f i
def rDs (σ : MS) (k : Nat) (f : Nat → Nat) : Nat → Nat → Nat
  | 0 => f
  | s + 1 => rD σ k s (rDs σ k f s)
def rC (σ : MS) (k : Nat) (f : Nat → Nat) : Nat → Nat := if opn σ k then rDs σ k f 4 else f
def rR (σ : MS) (f : Nat → Nat) : Nat → Nat → Nat
  | 0 => f
  | k + 1 => rC σ k (rR σ f k)
def rA (σ : MS) (f : Nat → Nat) : Nat → Nat → Nat
  | 0 => f
  | r + 1 => rR σ (rA σ f r) 36
def f0 (σ : MS) (t : Int32) : Nat → Nat := fun i => if nI i = t ∧ opn σ i then 0 else 36
/-- the length of the shortest way from a cell to t: 36 if there is none -/
def dst (σ : MS) (t : Int32) : Nat → Nat := rA σ (f0 σ t) 36
def rP (σ : MS) (t : Int32) : Nat → Nat → Prop
  | 0, k => nI k = t ∧ opn σ k
  | n + 1, k => opn σ k ∧ ∃ s, s < 4 ∧ hb σ k s ∧ rP σ t n (stp k s)
def le36 (f : Nat → Nat) : Prop := ∀ i, f i ≤ 36
theorem rlx_le {σ : MS} {f : Nat → Nat} {k s : Nat} : rlx σ f k s ≤ f k := by unfold rlx; split <;> omega
theorem rD_le {σ : MS} {f : Nat → Nat} {k s : Nat} (i : Nat) : rD σ k s f i ≤ f i := by
  unfold rD
  split
  · rename_i h; rw [h]; exact rlx_le
  · exact Nat.le_refl _
theorem rDs_le {σ : MS} {f : Nat → Nat} {k : Nat} : ∀ (s i : Nat), rDs σ k f s i ≤ f i
  | 0, _ => Nat.le_refl _
  | s + 1, i => Nat.le_trans (rD_le i) (rDs_le s i)
theorem rC_le {σ : MS} {f : Nat → Nat} {k : Nat} (i : Nat) : rC σ k f i ≤ f i := by
  unfold rC
  split
  · exact rDs_le 4 i
  · exact Nat.le_refl _
theorem rR_le {σ : MS} {f : Nat → Nat} : ∀ (k i : Nat), rR σ f k i ≤ f i
  | 0, _ => Nat.le_refl _
  | k + 1, i => Nat.le_trans (rC_le i) (rR_le k i)
theorem f0_le {σ : MS} {t : Int32} : le36 (f0 σ t) := fun i => by unfold f0; split <;> omega
theorem le_of {f g : Nat → Nat} (h : le36 f) (h2 : ∀ i, g i ≤ f i) : le36 g := fun i => Nat.le_trans (h2 i) (h i)
/-- each number below 36 is that of a way -/
def jW (σ : MS) (t : Int32) (f : Nat → Nat) : Prop := le36 f ∧ ∀ k, k < 36 → f k < 36 → rP σ t (f k) k
theorem jW_D {σ : MS} {t : Int32} {f : Nat → Nat} {k s : Nat} (ho : hOK σ) (hk : k < 36) (hs : s < 4) (hp : opn σ k) (H : jW σ t f) : jW σ t (rD σ k s f) := by
  refine ⟨le_of H.1 rD_le, fun j hj hl => ?_⟩
  unfold rD at hl ⊢
  by_cases e : j = k
  · rw [if_pos e] at hl ⊢
    subst e
    unfold rlx at hl ⊢
    by_cases q : hb σ j s ∧ f (stp j s) + 1 < f j
    · rw [if_pos q]
      have h36 := H.1 j
      exact ⟨hp, s, hs, q.1, H.2 _ (stp_lt hk (ho j s hk hs q.1) hs) (by omega)⟩
    · rw [if_neg q] at hl ⊢
      exact H.2 j hj hl
  · rw [if_neg e] at hl ⊢
    exact H.2 j hj hl
theorem jW_Ds {σ : MS} {t : Int32} {f : Nat → Nat} {k : Nat} (ho : hOK σ) (hk : k < 36) (hp : opn σ k) (H : jW σ t f) : ∀ s, s ≤ 4 → jW σ t (rDs σ k f s)
  | 0, _ => H
  | s + 1, h => jW_D ho hk (by omega) hp (jW_Ds ho hk hp H s (by omega))
theorem jW_C {σ : MS} {t : Int32} {f : Nat → Nat} {k : Nat} (ho : hOK σ) (hk : k < 36) (H : jW σ t f) : jW σ t (rC σ k f) := by
  unfold rC
  split
  · rename_i hp; exact jW_Ds ho hk hp H 4 (by omega)
  · exact H
theorem jW_R {σ : MS} {t : Int32} {f : Nat → Nat} (ho : hOK σ) (H : jW σ t f) : ∀ k, k ≤ 36 → jW σ t (rR σ f k)
  | 0, _ => H
  | k + 1, h => jW_C ho (by omega) (jW_R ho H k (by omega))
theorem jW_A {σ : MS} {t : Int32} {f : Nat → Nat} (ho : hOK σ) (H : jW σ t f) : ∀ r, jW σ t (rA σ f r)
  | 0 => H
  | r + 1 => jW_R ho (jW_A ho H r) 36 (by omega)
/-- no way of up to r steps is missed -/
def pW (σ : MS) (t : Int32) (r : Nat) (f : Nat → Nat) : Prop := ∀ k, k < 36 → ∀ n, n ≤ r → rP σ t n k → f k ≤ n
theorem pW_le {σ : MS} {t : Int32} {r : Nat} {f g : Nat → Nat} (H : pW σ t r f) (h : ∀ i, g i ≤ f i) : pW σ t r g := fun k hk n hn hp => Nat.le_trans (h k) (H k hk n hn hp)
theorem pW_C {σ : MS} {t : Int32} {r k : Nat} {f : Nat → Nat} (ho : hOK σ) (hk : k < 36) (H : pW σ t r f) (hp : rP σ t (r + 1) k) : rC σ k f k ≤ r + 1 := by
  obtain ⟨h1, s, hs, h2, h3⟩ := hp
  unfold rC
  rw [if_pos h1]
  have a1 : rDs σ k f (s + 1) k ≤ r + 1 := by
    have b1 : rDs σ k f s (stp k s) ≤ r := Nat.le_trans (rDs_le s _) (H _ (stp_lt hk (ho k s hk hs h2) hs) r (Nat.le_refl _) h3)
    show rD σ k s (rDs σ k f s) k ≤ r + 1
    unfold rD rlx
    rw [if_pos rfl]
    split
    · omega
    · rename_i q
      have : ¬ rDs σ k f s (stp k s) + 1 < rDs σ k f s k := fun z => q ⟨h2, z⟩
      omega
  have a2 : ∀ n, rDs σ k f (s + 1 + n) k ≤ r + 1 := by
    intro n
    induction n with
    | zero => exact a1
    | succ n ih => exact Nat.le_trans (rD_le k) ih
  have := a2 (3 - s)
  rw [show s + 1 + (3 - s) = 4 from by omega] at this
  exact this
theorem pW_R {σ : MS} {t : Int32} {r : Nat} {f : Nat → Nat} (ho : hOK σ) (H : pW σ t r f) : pW σ t (r + 1) (rR σ f 36) := by
  have h : ∀ m, m ≤ 36 → ∀ k, k < m → rP σ t (r + 1) k → rR σ f m k ≤ r + 1 := by
    intro m
    induction m with
    | zero => intro _ k hk; omega
    | succ m ih =>
      intro hm k hk hp
      by_cases e : k = m
      · subst e
        exact pW_C ho (by omega) (pW_le H (rR_le k)) hp
      · exact Nat.le_trans (rC_le k) (ih (by omega) k (by omega) hp)
  intro k hk n hn hp
  by_cases e : n = r + 1
  · subst e; exact h 36 (Nat.le_refl _) k hk hp
  · exact Nat.le_trans (rR_le 36 k) (H k hk n (by omega) hp)
theorem pW_A {σ : MS} {t : Int32} {f : Nat → Nat} (ho : hOK σ) (H : pW σ t 0 f) : ∀ r, pW σ t r (rA σ f r)
  | 0 => H
  | r + 1 => pW_R ho (pW_A ho H r)
/-- what a measure of the ways is -/
def isD (σ : MS) (t : Int32) (f : Nat → Nat) : Prop := ∀ k, k < 36 → f k ≤ 36 ∧ (f k < 36 → rP σ t (f k) k) ∧ ∀ n, n < 36 → rP σ t n k → f k ≤ n
theorem dst_isD {σ : MS} {t : Int32} (ho : hOK σ) : isD σ t (dst σ t) := by
  have h1 : jW σ t (f0 σ t) := ⟨f0_le, fun k _ hl => by
    unfold f0 at hl ⊢
    by_cases e : nI k = t ∧ opn σ k
    · rw [if_pos e]; exact e
    · rw [if_neg e] at hl; omega⟩
  have h2 : pW σ t 0 (f0 σ t) := fun k _ n hn hp => by
    have : n = 0 := by omega
    subst this
    unfold f0
    rw [if_pos (show nI k = t ∧ opn σ k from hp)]; exact Nat.le_refl _
  have h3 := jW_A ho h1 36
  have h4 := pW_A ho h2 36
  exact fun k hk => ⟨h3.1 k, h3.2 k hk, fun n hn hp => h4 k hk n (by omega) hp⟩
/-- beside a cell with a way of n + 1 steps lies one with n, and none nearer -/
theorem isD_next {σ : MS} {t : Int32} {f : Nat → Nat} (ho : hOK σ) (hf : isD σ t f) {k : Nat} (hk : k < 36) (h0 : 0 < f k) (h1 : f k < 36) : opn σ k ∧ ∃ s, s < 4 ∧ hb σ k s ∧ f (stp k s) = f k - 1 := by
  have h2 := (hf k hk).2.1 h1
  obtain ⟨n, hn⟩ : ∃ n, f k = n + 1 := ⟨f k - 1, by omega⟩
  rw [hn] at h2
  obtain ⟨hp, s, hs, hh, hr⟩ := h2
  refine ⟨hp, s, hs, hh, ?_⟩
  have hs2 := stp_lt hk (ho k s hk hs hh) hs
  obtain ⟨b1, b2, b3⟩ := hf _ hs2
  have c1 := b3 n (by omega) hr
  have c2 := (hf k hk).2.2 (f (stp k s) + 1) (by omega) ⟨hp, s, hs, hh, b2 (by omega)⟩
  omega
/-- the state with the first n of its row of ways written -/
def sFn (σ : MS) (f : Nat → Nat) (n : Nat) : MS := (σ.1, fun j i => if j = 33 ∧ i < n then nI (f i) else σ.2 j i)
theorem sFn_row {σ : MS} {f : Nat → Nat} {n j : Nat} (h : j ≠ 33) : (sFn σ f n).2 j = σ.2 j := by funext i; exact if_neg (fun z => h z.1)
theorem nI_m1 {k : Nat} (h : k < 36) : ¬ nI k = -1 := by
  intro z
  have := congrArg Int32.toInt z
  rw [nI_toInt (by omega)] at this
  have : (-1 : Int32).toInt = -1 := rfl
  omega

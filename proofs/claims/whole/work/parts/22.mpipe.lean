
/-! THE MODEL'S CONTRACTS, 10: pipe -/
def pw (s : Nat) : Int32 := if s = 0 then 1 else if s = 1 then 2 else if s = 2 then 4 else if s = 3 then 8 else 16
def stp (k s : Nat) : Nat := if s = 0 then k - 1 else if s = 1 then k + 1 else if s = 2 then k - 12 else k + 12
abbrev hb (σ : MS) (k s : Nat) : Prop := ¬ σ.2 29 k &&& pw s = 0
abbrev opn (σ : MS) (k : Nat) : Prop := ¬ 3 ≤ σ.2 28 k
def okS (k s : Nat) : Prop := (s = 0 → 1 ≤ k) ∧ (s = 1 → k < 35) ∧ (s = 2 → 12 ≤ k) ∧ (s = 3 → k < 24)
def hOK (σ : MS) : Prop := ∀ k s, k < 36 → s < 4 → hb σ k s → okS k s
theorem stp_lt {k s : Nat} (hk : k < 36) (h : okS k s) (hs : s < 4) : stp k s < 36 := by
  unfold okS at h
  unfold stp
  split
  · omega
  · split
    · omega
    · split <;> omega
def bynd (σ : MS) (k s : Nat) : Int32 := if hb σ k s then nI (stp k s) else -1
theorem nI_s1 {k : Nat} (h : 1 ≤ k) : nI k - 1 = nI (k - 1) := by
  obtain ⟨j, rfl⟩ : ∃ j, k = j + 1 := ⟨k - 1, by omega⟩
  exact nI_pred j
theorem nI_s12 {k : Nat} (h : 12 ≤ k) : nI k - 12 = nI (k - 12) := by
  obtain ⟨j, rfl⟩ : ∃ j, k = j + 12 := ⟨k - 12, by omega⟩
  rw [← nI_add, show nI 12 = 12 from rfl, Int32.add_sub_cancel, Nat.add_sub_cancel]
theorem nI_12 (k : Nat) : nI k + 12 = nI (k + 12) := nI_add k 12
theorem bynd_no {σ : MS} {k s : Nat} (h : σ.2 29 k &&& pw s = 0) : bynd σ k s = -1 := if_neg (fun z => z h)
theorem bynd_yes {σ : MS} {k s : Nat} (h : hb σ k s) : bynd σ k s = nI (stp k s) := if_pos h
set_option maxRecDepth 20000 in
theorem c_X9_beyond {w : W0} {m : Nat} {iv : Nat → Nat} {h : AH} {σ : MS} {c b : Int32} (hm : MOK m iv h) (ho : hOK σ) {k s : Nat} (hk : k < 36) (hs : s < 4) (ec : c = nI k) (eb : b = pw s) : CM w yX9_beyond mX9_beyond m iv h [c, b] σ (fun r σ' => r = some (bynd σ k s) ∧ σ' = σ) := by
  refine CM_of mcX9_beyond (Nat.le_of_ble_eq_true rfl) ?_
  subst ec
  have hc : vp_in (nI k) 36 := vp_in_nI hk (by decide)
  have ek : (nI k).toNatClampNeg = k := nI_clamp (by omega)
  have hO := ho k s hk hs
  have kNo : σ.2 29 k &&& b = 0 → (-1 : Int32) = bynd σ k s := by intro z; rw [eb] at z; exact (bynd_no z).symm
  have kY : ¬ σ.2 29 k &&& b = 0 → bynd σ k s = nI (stp k s) ∧ okS k s := by intro z; rw [eb] at z; exact ⟨bynd_yes z, hO z⟩
  refine runM_ok rkX9_beyond hm noCut 200 _ _ _ _ ?_
  refine And.intro hc ?_
  refine And.intro (fun c1 => ?_) (fun c1 => ?_)
  · try simp only [b01_eq, b01_ne, Classical.not_not, upS_row, ek] at c1
    refine And.intro (fun c2 => ?_) (fun c2 => ?_)
    · try simp only [b01_eq, b01_ne, Classical.not_not, upS_row] at c2
      refine And.intro (fun c3 => ?_) (fun c3 => ?_)
      · try simp only [b01_eq, b01_ne, Classical.not_not, upS_row] at c3
        refine And.intro (fun c4 => ?_) (fun c4 => ?_)
        · try simp only [b01_eq, b01_ne, Classical.not_not, upS_row] at c4
          refine ⟨?_, rfl⟩
          obtain ⟨y1, y2⟩ := kY (by assumption)
          rw [y1]
          have hs4 : s = 0 ∨ s = 1 ∨ s = 2 ∨ s = 3 := by omega
          unfold okS at y2
          subst eb
          rcases hs4 with rfl | rfl | rfl | rfl
          · first | (rw [nI_s1 (by omega)]; rfl) | (exfalso; grind [pw])
          · first | (rw [nI_1]; rfl) | (exfalso; grind [pw])
          · first | (rw [nI_s12 (by omega)]; rfl) | (exfalso; grind [pw])
          · first | (rw [nI_12]; rfl) | (exfalso; grind [pw])
        · try simp only [b01_eq, b01_ne, Classical.not_not, upS_row] at c4
          refine ⟨?_, rfl⟩
          obtain ⟨y1, y2⟩ := kY (by assumption)
          rw [y1]
          have hs4 : s = 0 ∨ s = 1 ∨ s = 2 ∨ s = 3 := by omega
          unfold okS at y2
          subst eb
          rcases hs4 with rfl | rfl | rfl | rfl
          · first | (rw [nI_s1 (by omega)]; rfl) | (exfalso; grind [pw])
          · first | (rw [nI_1]; rfl) | (exfalso; grind [pw])
          · first | (rw [nI_s12 (by omega)]; rfl) | (exfalso; grind [pw])
          · first | (rw [nI_12]; rfl) | (exfalso; grind [pw])
      · try simp only [b01_eq, b01_ne, Classical.not_not, upS_row] at c3
        refine ⟨?_, rfl⟩
        obtain ⟨y1, y2⟩ := kY (by assumption)
        rw [y1]
        have hs4 : s = 0 ∨ s = 1 ∨ s = 2 ∨ s = 3 := by omega
        unfold okS at y2
        subst eb
        rcases hs4 with rfl | rfl | rfl | rfl
        · first | (rw [nI_s1 (by omega)]; rfl) | (exfalso; grind [pw])
        · first | (rw [nI_1]; rfl) | (exfalso; grind [pw])
        · first | (rw [nI_s12 (by omega)]; rfl) | (exfalso; grind [pw])
        · first | (rw [nI_12]; rfl) | (exfalso; grind [pw])
    · try simp only [b01_eq, b01_ne, Classical.not_not, upS_row] at c2
      refine ⟨?_, rfl⟩
      obtain ⟨y1, y2⟩ := kY (by assumption)
      rw [y1]
      have hs4 : s = 0 ∨ s = 1 ∨ s = 2 ∨ s = 3 := by omega
      unfold okS at y2
      subst eb
      rcases hs4 with rfl | rfl | rfl | rfl
      · first | (rw [nI_s1 (by omega)]; rfl) | (exfalso; grind [pw])
      · first | (rw [nI_1]; rfl) | (exfalso; grind [pw])
      · first | (rw [nI_s12 (by omega)]; rfl) | (exfalso; grind [pw])
      · first | (rw [nI_12]; rfl) | (exfalso; grind [pw])
  · try simp only [b01_eq, b01_ne, Classical.not_not, upS_row, ek] at c1
    first | exact ⟨congrArg some (kNo (by assumption)), rfl⟩ | exact ⟨congrArg some (kNo (Classical.not_not.mp (by assumption))), rfl⟩

def rlx (σ : MS) (f : Nat → Nat) (k s : Nat) : Nat := if hb σ k s ∧ f (stp k s) + 1 < f k then f (stp k s) + 1 else f k
def rD (σ : MS) (k s : Nat) (f : Nat → Nat) : Nat → Nat := fun i => if i = k then rlx σ f k s else f i
def rDs (σ : MS) (k : Nat) (f : Nat → Nat) : Nat → Nat → Nat
  | 0 => f
  | s + 1 => rD σ k s (rDs σ k f s)
def rC (σ : MS) (k : Nat) (f : Nat → Nat) : Nat → Nat := if opn σ k then rDs σ k f 4 else f
def rR (σ : MS) (f : Nat → Nat) : Nat → Nat → Nat
  | 0 => f
  | k + 1 => rC σ k (rR σ f k)
def rA (σ : MS) (f : Nat → Nat) : Nat → Nat → Nat
  | 0 => f
  | r + 1 => rR σ (rA σ f r) 36
def f0 (σ : MS) (t : Int32) : Nat → Nat := fun i => if nI i = t ∧ opn σ i then 0 else 36
/-- the length of the shortest way from a cell to t: 36 if there is none -/
def dst (σ : MS) (t : Int32) : Nat → Nat := rA σ (f0 σ t) 36
def rP (σ : MS) (t : Int32) : Nat → Nat → Prop
  | 0, k => nI k = t ∧ opn σ k
  | n + 1, k => opn σ k ∧ ∃ s, s < 4 ∧ hb σ k s ∧ rP σ t n (stp k s)
def le36 (f : Nat → Nat) : Prop := ∀ i, f i ≤ 36
theorem rlx_le {σ : MS} {f : Nat → Nat} {k s : Nat} : rlx σ f k s ≤ f k := by unfold rlx; split <;> omega
theorem rD_le {σ : MS} {f : Nat → Nat} {k s : Nat} (i : Nat) : rD σ k s f i ≤ f i := by
  unfold rD
  split
  · rename_i h; rw [h]; exact rlx_le
  · exact Nat.le_refl _
theorem rDs_le {σ : MS} {f : Nat → Nat} {k : Nat} : ∀ (s i : Nat), rDs σ k f s i ≤ f i
  | 0, _ => Nat.le_refl _
  | s + 1, i => Nat.le_trans (rD_le i) (rDs_le s i)
theorem rC_le {σ : MS} {f : Nat → Nat} {k : Nat} (i : Nat) : rC σ k f i ≤ f i := by
  unfold rC
  split
  · exact rDs_le 4 i
  · exact Nat.le_refl _
theorem rR_le {σ : MS} {f : Nat → Nat} : ∀ (k i : Nat), rR σ f k i ≤ f i
  | 0, _ => Nat.le_refl _
  | k + 1, i => Nat.le_trans (rC_le i) (rR_le k i)
theorem rA_le {σ : MS} {f : Nat → Nat} : ∀ (k i : Nat), rA σ f k i ≤ f i
  | 0, _ => Nat.le_refl _
  | k + 1, i => Nat.le_trans (rR_le 36 i) (rA_le k i)
theorem f0_le {σ : MS} {t : Int32} : le36 (f0 σ t) := fun i => by unfold f0; split <;> omega
theorem le_of {f g : Nat → Nat} (h : le36 f) (h2 : ∀ i, g i ≤ f i) : le36 g := fun i => Nat.le_trans (h2 i) (h i)
/-- each number below 36 is that of a way -/
def jW (σ : MS) (t : Int32) (f : Nat → Nat) : Prop := le36 f ∧ ∀ k, k < 36 → f k < 36 → rP σ t (f k) k
theorem jW_D {σ : MS} {t : Int32} {f : Nat → Nat} {k s : Nat} (ho : hOK σ) (hk : k < 36) (hs : s < 4) (hp : opn σ k) (H : jW σ t f) : jW σ t (rD σ k s f) := by
  refine ⟨le_of H.1 rD_le, fun j hj hl => ?_⟩
  unfold rD at hl ⊢
  by_cases e : j = k
  · rw [if_pos e] at hl ⊢
    subst e
    unfold rlx at hl ⊢
    by_cases q : hb σ j s ∧ f (stp j s) + 1 < f j
    · rw [if_pos q]
      have h36 := H.1 j
      exact ⟨hp, s, hs, q.1, H.2 _ (stp_lt hk (ho j s hk hs q.1) hs) (by omega)⟩
    · rw [if_neg q] at hl ⊢
      exact H.2 j hj hl
  · rw [if_neg e] at hl ⊢
    exact H.2 j hj hl
theorem jW_Ds {σ : MS} {t : Int32} {f : Nat → Nat} {k : Nat} (ho : hOK σ) (hk : k < 36) (hp : opn σ k) (H : jW σ t f) : ∀ s, s ≤ 4 → jW σ t (rDs σ k f s)
  | 0, _ => H
  | s + 1, h => jW_D ho hk (by omega) hp (jW_Ds ho hk hp H s (by omega))
theorem jW_C {σ : MS} {t : Int32} {f : Nat → Nat} {k : Nat} (ho : hOK σ) (hk : k < 36) (H : jW σ t f) : jW σ t (rC σ k f) := by
  unfold rC
  split
  · rename_i hp; exact jW_Ds ho hk hp H 4 (by omega)
  · exact H
theorem jW_R {σ : MS} {t : Int32} {f : Nat → Nat} (ho : hOK σ) (H : jW σ t f) : ∀ k, k ≤ 36 → jW σ t (rR σ f k)
  | 0, _ => H
  | k + 1, h => jW_C ho (by omega) (jW_R ho H k (by omega))
theorem jW_A {σ : MS} {t : Int32} {f : Nat → Nat} (ho : hOK σ) (H : jW σ t f) : ∀ r, jW σ t (rA σ f r)
  | 0 => H
  | r + 1 => jW_R ho (jW_A ho H r) 36 (by omega)
/-- no way of up to r steps is missed -/
def pW (σ : MS) (t : Int32) (r : Nat) (f : Nat → Nat) : Prop := ∀ k, k < 36 → ∀ n, n ≤ r → rP σ t n k → f k ≤ n
theorem pW_le {σ : MS} {t : Int32} {r : Nat} {f g : Nat → Nat} (H : pW σ t r f) (h : ∀ i, g i ≤ f i) : pW σ t r g := fun k hk n hn hp => Nat.le_trans (h k) (H k hk n hn hp)
theorem pW_C {σ : MS} {t : Int32} {r k : Nat} {f : Nat → Nat} (ho : hOK σ) (hk : k < 36) (H : pW σ t r f) (hp : rP σ t (r + 1) k) : rC σ k f k ≤ r + 1 := by
  obtain ⟨h1, s, hs, h2, h3⟩ := hp
  unfold rC
  rw [if_pos h1]
  have a1 : rDs σ k f (s + 1) k ≤ r + 1 := by
    have b1 : rDs σ k f s (stp k s) ≤ r := Nat.le_trans (rDs_le s _) (H _ (stp_lt hk (ho k s hk hs h2) hs) r (Nat.le_refl _) h3)
    show rD σ k s (rDs σ k f s) k ≤ r + 1
    unfold rD rlx
    rw [if_pos rfl]
    split
    · omega
    · rename_i q
      have : ¬ rDs σ k f s (stp k s) + 1 < rDs σ k f s k := fun z => q ⟨h2, z⟩
      omega
  have a2 : ∀ n, rDs σ k f (s + 1 + n) k ≤ r + 1 := by
    intro n
    induction n with
    | zero => exact a1
    | succ n ih => exact Nat.le_trans (rD_le k) ih
  have := a2 (3 - s)
  rw [show s + 1 + (3 - s) = 4 from by omega] at this
  exact this
theorem pW_R {σ : MS} {t : Int32} {r : Nat} {f : Nat → Nat} (ho : hOK σ) (H : pW σ t r f) : pW σ t (r + 1) (rR σ f 36) := by
  have h : ∀ m, m ≤ 36 → ∀ k, k < m → rP σ t (r + 1) k → rR σ f m k ≤ r + 1 := by
    intro m
    induction m with
    | zero => intro _ k hk; omega
    | succ m ih =>
      intro hm k hk hp
      by_cases e : k = m
      · subst e
        exact pW_C ho (by omega) (pW_le H (rR_le k)) hp
      · exact Nat.le_trans (rC_le k) (ih (by omega) k (by omega) hp)
  intro k hk n hn hp
  by_cases e : n = r + 1
  · subst e; exact h 36 (Nat.le_refl _) k hk hp
  · exact Nat.le_trans (rR_le 36 k) (H k hk n (by omega) hp)
theorem pW_A {σ : MS} {t : Int32} {f : Nat → Nat} (ho : hOK σ) (H : pW σ t 0 f) : ∀ r, pW σ t r (rA σ f r)
  | 0 => H
  | r + 1 => pW_R ho (pW_A ho H r)
/-- what a measure of the ways is -/
def isD (σ : MS) (t : Int32) (f : Nat → Nat) : Prop := ∀ k, k < 36 → f k ≤ 36 ∧ (f k < 36 → rP σ t (f k) k) ∧ ∀ n, n < 36 → rP σ t n k → f k ≤ n
theorem dst_isD {σ : MS} {t : Int32} (ho : hOK σ) : isD σ t (dst σ t) := by
  have h1 : jW σ t (f0 σ t) := ⟨f0_le, fun k _ hl => by
    unfold f0 at hl ⊢
    by_cases e : nI k = t ∧ opn σ k
    · rw [if_pos e]; exact e
    · rw [if_neg e] at hl; omega⟩
  have h2 : pW σ t 0 (f0 σ t) := fun k _ n hn hp => by
    have : n = 0 := by omega
    subst this
    unfold f0
    rw [if_pos (show nI k = t ∧ opn σ k from hp)]; exact Nat.le_refl _
  have h3 := jW_A ho h1 36
  have h4 := pW_A ho h2 36
  exact fun k hk => ⟨h3.1 k, h3.2 k hk, fun n hn hp => h4 k hk n (by omega) hp⟩
theorem isD_eq {σ : MS} {t : Int32} {f g : Nat → Nat} (hf : isD σ t f) (hg : isD σ t g) {k : Nat} (hk : k < 36) : f k = g k := by
  obtain ⟨a1, a2, a3⟩ := hf k hk
  obtain ⟨b1, b2, b3⟩ := hg k hk
  by_cases h : f k < 36
  · have c1 := b3 _ h (a2 h)
    have c2 := a3 _ (by omega) (b2 (by omega))
    omega
  · by_cases h' : g k < 36
    · have := a3 _ h' (b2 h'); omega
    · omega
/-- beside a cell with a way of n + 1 steps lies one with n, and none nearer -/
theorem isD_next {σ : MS} {t : Int32} {f : Nat → Nat} (ho : hOK σ) (hf : isD σ t f) {k : Nat} (hk : k < 36) (h0 : 0 < f k) (h1 : f k < 36) : opn σ k ∧ ∃ s, s < 4 ∧ hb σ k s ∧ f (stp k s) = f k - 1 := by
  have h2 := (hf k hk).2.1 h1
  obtain ⟨n, hn⟩ : ∃ n, f k = n + 1 := ⟨f k - 1, by omega⟩
  rw [hn] at h2
  obtain ⟨hp, s, hs, hh, hr⟩ := h2
  refine ⟨hp, s, hs, hh, ?_⟩
  have hs2 := stp_lt hk (ho k s hk hs hh) hs
  obtain ⟨b1, b2, b3⟩ := hf _ hs2
  have c1 := b3 n (by omega) hr
  have c2 := (hf k hk).2.2 (f (stp k s) + 1) (by omega) ⟨hp, s, hs, hh, b2 (by omega)⟩
  omega
/-- the state with the first n of its row of ways written -/
def sFn (σ : MS) (f : Nat → Nat) (n : Nat) : MS := (σ.1, fun j i => if j = 33 ∧ i < n then nI (f i) else σ.2 j i)
theorem sFn_0 (σ : MS) (f : Nat → Nat) : sFn σ f 0 = σ := by simp [sFn]
theorem sFn_row {σ : MS} {f : Nat → Nat} {n j : Nat} (h : j ≠ 33) : (sFn σ f n).2 j = σ.2 j := by funext i; exact if_neg (fun z => h z.1)
theorem sFn_33 {σ : MS} {f : Nat → Nat} {n i : Nat} (h : i < n) : (sFn σ f n).2 33 i = nI (f i) := if_pos ⟨rfl, h⟩
theorem sFn_up {σ : MS} {f : Nat → Nat} {n : Nat} {v : Int32} (hv : v = nI (f n)) : upA (sFn σ f n) 33 n v = sFn σ f (n + 1) := by
  unfold upA sFn
  refine Prod.ext rfl ?_
  funext j i
  show (if j = 33 ∧ i = n then v else if j = 33 ∧ i < n then nI (f i) else σ.2 j i) = if j = 33 ∧ i < n + 1 then nI (f i) else σ.2 j i
  by_cases e : j = 33 ∧ i = n
  · rw [if_pos e, if_pos ⟨e.1, by omega⟩, e.2, hv]
  · rw [if_neg e]
    by_cases e2 : j = 33 ∧ i < n
    · rw [if_pos e2, if_pos ⟨e2.1, by omega⟩]
    · rw [if_neg e2, if_neg (fun z => by have := z.1; have := z.2; have : i ≠ n := fun q => e ⟨z.1, q⟩; exact e2 ⟨z.1, by omega⟩)]
theorem sFn_at {σ : MS} {f : Nat → Nat} {k s : Nat} (hk : k < 36) : upA (sFn σ f 36) 33 k (nI (rlx σ f k s)) = sFn σ (rD σ k s f) 36 := by
  unfold upA sFn
  refine Prod.ext rfl ?_
  funext j i
  show (if j = 33 ∧ i = k then nI (rlx σ f k s) else if j = 33 ∧ i < 36 then nI (f i) else σ.2 j i) = if j = 33 ∧ i < 36 then nI (if i = k then rlx σ f k s else f i) else σ.2 j i
  by_cases e : j = 33 ∧ i = k
  · rw [if_pos e, if_pos ⟨e.1, by omega⟩, if_pos e.2]
  · rw [if_neg e]
    by_cases e2 : j = 33 ∧ i < 36
    · rw [if_pos e2, if_pos e2, if_neg (fun q => e ⟨e2.1, q⟩)]
    · rw [if_neg e2, if_neg e2]
theorem hOK_row {σ σ' : MS} (h : σ'.2 29 = σ.2 29) (ho : hOK σ) : hOK σ' := fun k s hk hs hh => ho k s hk hs (by unfold hb at hh ⊢; rw [h] at hh; exact hh)
theorem bynd_row {σ σ' : MS} (h : σ'.2 29 = σ.2 29) (k s : Nat) : bynd σ' k s = bynd σ k s := by unfold bynd hb; rw [h]
theorem bynd_ne {σ : MS} {k s : Nat} (hk : stp k s < 36) : ¬ bynd σ k s = -1 → hb σ k s ∧ bynd σ k s = nI (stp k s) := by
  intro h
  by_cases q : hb σ k s
  · exact ⟨q, bynd_yes q⟩
  · exact absurd (if_neg q) h
theorem nI_m1 {k : Nat} (h : k < 36) : ¬ nI k = -1 := by
  intro z
  have := congrArg Int32.toInt z
  rw [nI_toInt (by omega)] at this
  have : (-1 : Int32).toInt = -1 := rfl
  omega
theorem bynd_hb {σ : MS} {k s : Nat} (hk : k < 36) (hs : s < 4) (ho : hOK σ) (h : ¬ bynd σ k s = -1) : hb σ k s ∧ bynd σ k s = nI (stp k s) ∧ stp k s < 36 := by
  by_cases q : hb σ k s
  · exact ⟨q, bynd_yes q, stp_lt hk (ho k s hk hs q) hs⟩
  · exact absurd (if_neg q) h
theorem bynd_nhb {σ : MS} {k s : Nat} (hk : k < 36) (hs : s < 4) (ho : hOK σ) (h : bynd σ k s = -1) : ¬ hb σ k s := by
  intro q
  rw [bynd_yes q] at h
  exact nI_m1 (stp_lt hk (ho k s hk hs q) hs) h
theorem pw_2 {s : Nat} (hs : s < 4) : pw s * 2 = pw (s + 1) := by
  have hs4 : s = 0 ∨ s = 1 ∨ s = 2 ∨ s = 3 := by omega
  rcases hs4 with rfl | rfl | rfl | rfl <;> rfl
theorem pw_9 {s : Nat} (hs : s ≤ 4) : 9 ≤ pw s ↔ s = 4 := by
  have hs4 : s = 0 ∨ s = 1 ∨ s = 2 ∨ s = 3 ∨ s = 4 := by omega
  rcases hs4 with rfl | rfl | rfl | rfl | rfl <;> decide

theorem f0_yes {σ : MS} {t : Int32} {k : Nat} {g : Nat → Nat} (ek : (nI k).toNatClampNeg = k) (h1 : nI k = t) (h2 : ¬ 3 ≤ (sFn σ g k).2 28 (nI k).toNatClampNeg) : (0 : Int32) = nI (f0 σ t k) := by
  rw [sFn_row (by decide), ek] at h2
  unfold f0
  rw [if_pos ⟨h1, h2⟩]; rfl
theorem f0_no1 {σ : MS} {t : Int32} {k : Nat} (h1 : ¬ nI k = t) : (36 : Int32) = nI (f0 σ t k) := by
  unfold f0
  rw [if_neg (fun z => h1 z.1)]; rfl
theorem f0_no2 {σ : MS} {t : Int32} {k : Nat} {g : Nat → Nat} (ek : (nI k).toNatClampNeg = k) (h2 : 3 ≤ (sFn σ g k).2 28 (nI k).toNatClampNeg) : (36 : Int32) = nI (f0 σ t k) := by
  rw [sFn_row (by decide), ek] at h2
  unfold f0
  rw [if_neg (fun z => z.2 h2)]; rfl
theorem opn_no {σ : MS} {k n : Nat} {g : Nat → Nat} (ek : (nI k).toNatClampNeg = k) (h2 : 3 ≤ (sFn σ g n).2 28 (nI k).toNatClampNeg) : ¬ opn σ k := by
  rw [sFn_row (by decide), ek] at h2
  exact fun z => z h2
theorem rlx_nil {σ : MS} {f : Nat → Nat} {k s : Nat} (ho : hOK σ) (hk : k < 36) (hs : s < 4) (ek : (nI k).toNatClampNeg = k) (h : bynd σ k s = -1) : (sFn σ f 36).2 33 (nI k).toNatClampNeg = nI (rlx σ f k s) := by
  rw [ek, sFn_33 hk]
  unfold rlx
  rw [if_neg (fun z => bynd_nhb hk hs ho h z.1)]
theorem rlx_no {σ : MS} {f : Nat → Nat} {k s : Nat} (ho : hOK σ) (hk : k < 36) (hs : s < 4) (ek : (nI k).toNatClampNeg = k) (hle : ∀ i, f i ≤ 36) (h : (sFn σ f 36).2 33 (nI k).toNatClampNeg ≤ (sFn σ f 36).2 33 (bynd σ k s).toNatClampNeg + 1) : (sFn σ f 36).2 33 (nI k).toNatClampNeg = nI (rlx σ f k s) := by
  by_cases q : bynd σ k s = -1
  · exact rlx_nil ho hk hs ek q
  · obtain ⟨q1, q2, q3⟩ := bynd_hb hk hs ho q
    rw [q2, nI_clamp (n := stp k s) (by omega), ek, sFn_33 hk, sFn_33 q3, nI_1] at h
    have h1 := hle k
    have h2 := hle (stp k s)
    have h3 := (nI_leI (by omega) (by omega)).mp h
    rw [ek, sFn_33 hk]
    unfold rlx
    rw [if_neg (fun z => by have := z.2; omega)]
theorem rlx_yes {σ : MS} {f : Nat → Nat} {k s : Nat} (ho : hOK σ) (hk : k < 36) (hs : s < 4) (ek : (nI k).toNatClampNeg = k) (hle : ∀ i, f i ≤ 36) (q : ¬ bynd σ k s = -1) (h : ¬ (sFn σ f 36).2 33 (nI k).toNatClampNeg ≤ (sFn σ f 36).2 33 (bynd σ k s).toNatClampNeg + 1) : (sFn σ f 36).2 33 (bynd σ k s).toNatClampNeg + 1 = nI (rlx σ f k s) := by
  obtain ⟨q1, q2, q3⟩ := bynd_hb hk hs ho q
  rw [q2, nI_clamp (n := stp k s) (by omega), ek, sFn_33 hk, sFn_33 q3, nI_1] at h
  have h1 := hle k
  have h2 := hle (stp k s)
  have h3 : f (stp k s) + 1 < f k := Nat.lt_of_not_le (fun z => h (nI_le z (by omega)))
  rw [q2, nI_clamp (n := stp k s) (by omega), sFn_33 q3, nI_1]
  unfold rlx
  rw [if_pos ⟨q1, h3⟩]
set_option maxRecDepth 20000 in
theorem c_X9_ways {w : W0} {m : Nat} {iv : Nat → Nat} {h : AH} {σ : MS} {t : Int32} (hm : MOK m iv h) (ho : hOK σ) : CM w yX9_ways mX9_ways m iv h [t] σ (fun r σ' => r = none ∧ σ' = sFn σ (dst σ t) 36) := by
  refine CM_of mcX9_ways (Nat.le_of_ble_eq_true rfl) ?_
  have e36 : (36 : Int32) = nI 36 := rfl
  have loop43 : ∀ (n r : Nat) (x3 x4 x5 : Option MV), r ≤ 36 → 36 ≤ n + r → XM w mX9_ways m iv h (fun r σ' => r = none ∧ σ' = sFn σ (dst σ t) 36) 43 [some (.inr 0), some (.inl t), some (.inl (nI r)), x3, x4, x5] [] (sFn σ (rA σ (f0 σ t) r) 36) := by
    intro n
    induction n with
    | zero =>
      intro r x3 x4 x5 hk1 hk2
      have hex : 36 ≤ nI r → r = 36 := by intro z; have := (nI_leI (a := 36) (by omega) (by omega)).mp z; omega
      have hlt : ¬ 36 ≤ nI r → r < 36 := by intro z; exact Nat.lt_of_not_le (fun q => z (nI_le (a := 36) q (by omega)))
      refine runM_go rkX9_ways hm (fun p => Nat.beq p 2 || Nat.beq p 34 || Nat.beq p 43 || Nat.beq p 51 || Nat.beq p 60 || Nat.beq p 133 || Nat.beq p 143) 200 ?_
      refine And.intro (fun c0 => ?_) (fun c0 => ?_)
      · skip
        have hr := hex ‹_›
        subst hr
        exact ⟨rfl, rfl⟩
      · exact absurd (hlt c0) (by omega)
    | succ n ih =>
      intro r x3 x4 x5 hk1 hk2
      have hex : 36 ≤ nI r → r = 36 := by intro z; have := (nI_leI (a := 36) (by omega) (by omega)).mp z; omega
      have hlt : ¬ 36 ≤ nI r → r < 36 := by intro z; exact Nat.lt_of_not_le (fun q => z (nI_le (a := 36) q (by omega)))
      have ihr := ih
      have hlr := hlt
      refine runM_go rkX9_ways hm (fun p => Nat.beq p 2 || Nat.beq p 34 || Nat.beq p 43 || Nat.beq p 51 || Nat.beq p 60 || Nat.beq p 133 || Nat.beq p 143) 200 ?_
      refine And.intro (fun cr => ?_) (fun cr => ?_)
      · skip
        have hr := hex ‹_›
        subst hr
        exact ⟨rfl, rfl⟩
      · skip
        have loop51 : ∀ (n k : Nat) (x4 x5 : Option MV), k ≤ 36 → 36 ≤ n + k → XM w mX9_ways m iv h (fun r σ' => r = none ∧ σ' = sFn σ (dst σ t) 36) 51 [some (.inr 0), some (.inl t), some (.inl (nI r)), some (.inl (nI k)), x4, x5] [] (sFn σ (rR σ (rA σ (f0 σ t) r) k) 36) := by
          intro n
          induction n with
          | zero =>
            intro k x4 x5 hk1 hk2
            have hex : 36 ≤ nI k → k = 36 := by intro z; have := (nI_leI (a := 36) (by omega) (by omega)).mp z; omega
            have hlt : ¬ 36 ≤ nI k → k < 36 := by intro z; exact Nat.lt_of_not_le (fun q => z (nI_le (a := 36) q (by omega)))
            refine runM_go rkX9_ways hm (fun p => Nat.beq p 2 || Nat.beq p 34 || Nat.beq p 43 || Nat.beq p 51 || Nat.beq p 60 || Nat.beq p 133 || Nat.beq p 143) 200 ?_
            refine And.intro (fun c0 => ?_) (fun c0 => ?_)
            · skip
              have hk := hex ‹_›
              subst hk
              have e9 := ihr (r + 1) (some (.inl (nI 36))) x4 x5 (by have := hlr ‹_›; omega) (by omega)
              rw [← nI_1 r] at e9
              exact e9
            · exact absurd (hlt c0) (by omega)
          | succ n ih =>
            intro k x4 x5 hk1 hk2
            have hex : 36 ≤ nI k → k = 36 := by intro z; have := (nI_leI (a := 36) (by omega) (by omega)).mp z; omega
            have hlt : ¬ 36 ≤ nI k → k < 36 := by intro z; exact Nat.lt_of_not_le (fun q => z (nI_le (a := 36) q (by omega)))
            have K143 : ∀ x4 x5 : Option MV, k < 36 → XM w mX9_ways m iv h (fun r σ' => r = none ∧ σ' = sFn σ (dst σ t) 36) 143 [some (.inr 0), some (.inl t), some (.inl (nI r)), some (.inl (nI k)), x4, x5] [] (sFn σ (rR σ (rA σ (f0 σ t) r) (k + 1)) 36) := by
              intro x4 x5 hk36
              refine runM_go rkX9_ways hm (fun p => Nat.beq p 2 || Nat.beq p 34 || Nat.beq p 43 || Nat.beq p 51 || Nat.beq p 60 || Nat.beq p 133 || Nat.beq p 143) 200 ?_
              have e9 := ih (k + 1) x4 x5 (by omega) (by omega)
              rw [← nI_1 k] at e9
              exact e9
            have loop60 : ∀ (n s : Nat) (x5 : Option MV), k < 36 → opn σ k → s ≤ 4 → 4 ≤ n + s → XM w mX9_ways m iv h (fun r σ' => r = none ∧ σ' = sFn σ (dst σ t) 36) 60 [some (.inr 0), some (.inl t), some (.inl (nI r)), some (.inl (nI k)), some (.inl (pw s)), x5] [] (sFn σ (rDs σ k (rR σ (rA σ (f0 σ t) r) k) s) 36) := by
              intro n
              induction n with
              | zero =>
                intro s x5 hk36 hop hs1 hs2
                have ek : (nI k).toNatClampNeg = k := nI_clamp (by omega)
                obtain ⟨f, hf⟩ : ∃ f, f = rDs σ k (rR σ (rA σ (f0 σ t) r) k) s := ⟨_, rfl⟩
                have hex : 9 ≤ pw s → s = 4 := (pw_9 hs1).mp
                have hlt : ¬ 9 ≤ pw s → s < 4 := fun z => by have : s ≠ 4 := fun q => z ((pw_9 hs1).mpr q); omega
                refine runM_go rkX9_ways hm (fun p => Nat.beq p 2 || Nat.beq p 34 || Nat.beq p 43 || Nat.beq p 51 || Nat.beq p 60 || Nat.beq p 133 || Nat.beq p 143) 200 ?_
                refine And.intro (fun c0 => ?_) (fun c0 => ?_)
                · skip
                  first
                  | (have hs4 := hex ‹_›; subst hs4; have e9 := K143 (some (.inl (pw 4))) x5 hk36; rw [show rR σ (rA σ (f0 σ t) r) (k + 1) = rDs σ k (rR σ (rA σ (f0 σ t) r) k) 4 from if_pos hop] at e9; first | exact e9 | (rw [hf]; exact e9))
                  | (exact absurd hop (opn_no ek ‹_›))
                · exact absurd (hlt c0) (by omega)
              | succ n ih =>
                intro s x5 hk36 hop hs1 hs2
                have ek : (nI k).toNatClampNeg = k := nI_clamp (by omega)
                obtain ⟨f, hf⟩ : ∃ f, f = rDs σ k (rR σ (rA σ (f0 σ t) r) k) s := ⟨_, rfl⟩
                have hex : 9 ≤ pw s → s = 4 := (pw_9 hs1).mp
                have hlt : ¬ 9 ≤ pw s → s < 4 := fun z => by have : s ≠ 4 := fun q => z ((pw_9 hs1).mpr q); omega
                have hle : ∀ i, f i ≤ 36 := by rw [hf]; exact le_of f0_le (fun i => Nat.le_trans (rDs_le s i) (Nat.le_trans (rR_le k i) (rA_le r i)))
                rw [← hf]
                have K133 : ∀ x : Int32, s < 4 → x = nI (rlx σ f k s) → XM w mX9_ways m iv h (fun r σ' => r = none ∧ σ' = sFn σ (dst σ t) 36) 133 [some (.inr 0), some (.inl t), some (.inl (nI r)), some (.inl (nI k)), some (.inl (pw s)), some (.inl (bynd σ k s))] [.inl x, .inl (nI k), .inr 34] (sFn σ f 36) := by
                  intro x hs4 hx
                  subst hx
                  refine runM_go rkX9_ways hm (fun p => Nat.beq p 2 || Nat.beq p 34 || Nat.beq p 43 || Nat.beq p 51 || Nat.beq p 60 || Nat.beq p 133 || Nat.beq p 143) 200 ?_
                  refine And.intro (vp_in_nI (N := 36) hk36 (by decide)) ?_
                  have e9 := ih (s + 1) (some (.inl (bynd σ k s))) hk36 hop (by omega) (by omega)
                  rw [show rDs σ k (rR σ (rA σ (f0 σ t) r) k) (s + 1) = rD σ k s f from by rw [hf]; rfl, ← sFn_at hk36, ← pw_2 hs4] at e9
                  rw [ek]
                  exact e9
                refine runM_go rkX9_ways hm (fun p => Nat.beq p 2 || Nat.beq p 34 || Nat.beq p 43 || Nat.beq p 51 || Nat.beq p 60 || Nat.beq p 133 || Nat.beq p 143) 200 ?_
                refine And.intro (fun c1 => ?_) (fun c1 => ?_)
                · try simp only [b01_eq, b01_ne, Classical.not_not, upS_row] at c1
                  first
                  | (have hs4 := hex ‹_›; subst hs4; have e9 := K143 (some (.inl (pw 4))) x5 hk36; rw [show rR σ (rA σ (f0 σ t) r) (k + 1) = rDs σ k (rR σ (rA σ (f0 σ t) r) k) 4 from if_pos hop] at e9; first | exact e9 | (rw [hf]; exact e9))
                  | (exact absurd hop (opn_no ek ‹_›))
                · try simp only [b01_eq, b01_ne, Classical.not_not, upS_row] at c1
                  refine And.intro (vp_in_nI (N := 36) hk36 (by decide)) ?_
                  refine And.intro (fun c2 => ?_) (fun c2 => ?_)
                  · try simp only [b01_eq, b01_ne, Classical.not_not, upS_row] at c2
                    first
                    | (have hs4 := hex ‹_›; subst hs4; have e9 := K143 (some (.inl (pw 4))) x5 hk36; rw [show rR σ (rA σ (f0 σ t) r) (k + 1) = rDs σ k (rR σ (rA σ (f0 σ t) r) k) 4 from if_pos hop] at e9; first | exact e9 | (rw [hf]; exact e9))
                    | (exact absurd hop (opn_no ek ‹_›))
                  · try simp only [b01_eq, b01_ne, Classical.not_not, upS_row] at c2
                    refine qX9_ways_81 hm rfl (show CM w yX9_beyond mX9_beyond m iv h [nI k, pw s] (sFn σ f 36) (fun r σ' => r = some (bynd σ k s) ∧ σ' = sFn σ f 36) from bynd_row (sFn_row (by decide)) k s ▸ c_X9_beyond hm (hOK_row (sFn_row (by decide)) ho) hk36 (hlt ‹_›) rfl rfl) (fun r σ1 hq => ?_)
                    obtain ⟨rfl, rfl⟩ := hq
                    refine runM_ok rkX9_ways hm (fun p => Nat.beq p 2 || Nat.beq p 34 || Nat.beq p 43 || Nat.beq p 51 || Nat.beq p 60 || Nat.beq p 133 || Nat.beq p 143) 200 _ _ _ _ ?_
                    refine And.intro (fun c3 => ?_) (fun c3 => ?_)
                    · try simp only [b01_eq, b01_ne, Classical.not_not, upS_row] at c3
                      refine And.intro (vp_in_nI (N := 36) hk36 (by decide)) ?_
                      first
                      | exact K133 _ (hlt ‹_›) (rlx_no ho hk36 (hlt ‹_›) ek hle ‹_›)
                      | exact K133 _ (hlt ‹_›) (rlx_yes ho hk36 (hlt ‹_›) ek hle ‹_› ‹_›)
                      | exact K133 _ (hlt ‹_›) (rlx_nil ho hk36 (hlt ‹_›) ek ‹_›)
                    · try simp only [b01_eq, b01_ne, Classical.not_not, upS_row] at c3
                      refine And.intro (by have q := bynd_hb hk36 (hlt ‹_›) ho ‹_›; rw [q.2.1]; exact vp_in_nI (N := 36) q.2.2 (by decide)) ?_
                      refine And.intro (vp_in_nI (N := 36) hk36 (by decide)) ?_
                      refine And.intro (fun c4 => ?_) (fun c4 => ?_)
                      · try simp only [b01_eq, b01_ne, Classical.not_not, upS_row] at c4
                        refine And.intro (vp_in_nI (N := 36) hk36 (by decide)) ?_
                        first
                        | exact K133 _ (hlt ‹_›) (rlx_no ho hk36 (hlt ‹_›) ek hle ‹_›)
                        | exact K133 _ (hlt ‹_›) (rlx_yes ho hk36 (hlt ‹_›) ek hle ‹_› ‹_›)
                        | exact K133 _ (hlt ‹_›) (rlx_nil ho hk36 (hlt ‹_›) ek ‹_›)
                      · try simp only [b01_eq, b01_ne, Classical.not_not, upS_row] at c4
                        refine And.intro (by have q := bynd_hb hk36 (hlt ‹_›) ho ‹_›; rw [q.2.1]; exact vp_in_nI (N := 36) q.2.2 (by decide)) ?_
                        first
                        | exact K133 _ (hlt ‹_›) (rlx_no ho hk36 (hlt ‹_›) ek hle ‹_›)
                        | exact K133 _ (hlt ‹_›) (rlx_yes ho hk36 (hlt ‹_›) ek hle ‹_› ‹_›)
                        | exact K133 _ (hlt ‹_›) (rlx_nil ho hk36 (hlt ‹_›) ek ‹_›)
            have ek : k < 36 → (nI k).toNatClampNeg = k := fun _ => nI_clamp (by omega)
            have K60 : k < 36 → XM w mX9_ways m iv h (fun r σ' => r = none ∧ σ' = sFn σ (dst σ t) 36) 60 [some (.inr 0), some (.inl t), some (.inl (nI r)), some (.inl (nI k)), some (.inl 1), x5] [] (sFn σ (rR σ (rA σ (f0 σ t) r) k) 36) := by
              intro hk36
              by_cases hop : opn σ k
              · exact loop60 4 0 x5 hk36 hop (by omega) (by omega)
              · skip
                refine runM_go rkX9_ways hm (fun p => Nat.beq p 2 || Nat.beq p 34 || Nat.beq p 43 || Nat.beq p 51 || Nat.beq p 60 || Nat.beq p 133 || Nat.beq p 143) 200 ?_
                refine And.intro (fun c0 => absurd c0 (by decide)) (fun _ => ?_)
                refine And.intro (vp_in_nI (N := 36) hk36 (by decide)) ?_
                refine And.intro (fun c0 => ?_) (fun c0 => ?_)
                · skip
                  have e9 := K143 (some (.inl 1)) x5 hk36
                  rw [show rR σ (rA σ (f0 σ t) r) (k + 1) = rR σ (rA σ (f0 σ t) r) k from if_neg hop] at e9
                  exact e9
                · exact absurd (fun z => c0 (by rw [ek hk36]; exact z)) hop
            refine runM_go rkX9_ways hm (fun p => Nat.beq p 2 || Nat.beq p 34 || Nat.beq p 43 || Nat.beq p 51 || Nat.beq p 60 || Nat.beq p 133 || Nat.beq p 143) 200 ?_
            refine And.intro (fun c0 => ?_) (fun c0 => ?_)
            · skip
              have hk := hex ‹_›
              subst hk
              have e9 := ihr (r + 1) (some (.inl (nI 36))) x4 x5 (by have := hlr ‹_›; omega) (by omega)
              rw [← nI_1 r] at e9
              exact e9
            · exact K60 (hlt c0)
        exact loop51 36 0 x4 x5 (by omega) (by omega)
  have loop2 : ∀ (n k : Nat) , k ≤ 36 → 36 ≤ n + k → XM w mX9_ways m iv h (fun r σ' => r = none ∧ σ' = sFn σ (dst σ t) 36) 2 [some (.inr 0), some (.inl t), some (.inl (nI k)), none, none, none] [] (sFn σ (f0 σ t) k) := by
    intro n
    induction n with
    | zero =>
      intro k  hk1 hk2
      have hex : 36 ≤ nI k → k = 36 := by intro z; have := (nI_leI (a := 36) (by omega) (by omega)).mp z; omega
      have hlt : ¬ 36 ≤ nI k → k < 36 := by intro z; exact Nat.lt_of_not_le (fun q => z (nI_le (a := 36) q (by omega)))
      refine runM_go rkX9_ways hm (fun p => Nat.beq p 2 || Nat.beq p 34 || Nat.beq p 43 || Nat.beq p 51 || Nat.beq p 60 || Nat.beq p 133 || Nat.beq p 143) 200 ?_
      refine And.intro (fun c0 => ?_) (fun c0 => ?_)
      · skip
        have hk := hex ‹_›
        subst hk
        exact loop43 36 0 none none none (by omega) (by omega)
      · exact absurd (hlt c0) (by omega)
    | succ n ih =>
      intro k  hk1 hk2
      have hex : 36 ≤ nI k → k = 36 := by intro z; have := (nI_leI (a := 36) (by omega) (by omega)).mp z; omega
      have hlt : ¬ 36 ≤ nI k → k < 36 := by intro z; exact Nat.lt_of_not_le (fun q => z (nI_le (a := 36) q (by omega)))
      have ek : (nI k).toNatClampNeg = k := nI_clamp (by omega)
      have K34 : ∀ x : Int32, k < 36 → x = nI (f0 σ t k) → XM w mX9_ways m iv h (fun r σ' => r = none ∧ σ' = sFn σ (dst σ t) 36) 34 [some (.inr 0), some (.inl t), some (.inl (nI k)), none, none, none] [.inl x, .inl (nI k), .inr 34] (sFn σ (f0 σ t) k) := by
        intro x hk36 hx
        refine runM_go rkX9_ways hm (fun p => Nat.beq p 2 || Nat.beq p 34 || Nat.beq p 43 || Nat.beq p 51 || Nat.beq p 60 || Nat.beq p 133 || Nat.beq p 143) 200 ?_
        refine And.intro (vp_in_nI (N := 36) hk36 (by decide)) ?_
        have e9 := ih (k + 1) (by omega) (by omega)
        rw [← nI_1 k, ← sFn_up hx] at e9
        rw [ek]
        exact e9
      refine runM_go rkX9_ways hm (fun p => Nat.beq p 2 || Nat.beq p 34 || Nat.beq p 43 || Nat.beq p 51 || Nat.beq p 60 || Nat.beq p 133 || Nat.beq p 143) 200 ?_
      refine And.intro (fun c0 => ?_) (fun c0 => ?_)
      · skip
        have hk := hex ‹_›
        subst hk
        exact loop43 36 0 none none none (by omega) (by omega)
      · skip
        refine And.intro (fun c5 => ?_) (fun c5 => ?_)
        · try simp only [b01_eq, b01_ne, Classical.not_not, upS_row] at c5
          first
          | exact K34 _ (hlt ‹_›) (f0_yes ek ‹_› ‹_›)
          | exact K34 _ (hlt ‹_›) (f0_no1 ‹_›)
          | exact K34 _ (hlt ‹_›) (f0_no2 ek ‹_›)
        · try simp only [b01_eq, b01_ne, Classical.not_not, upS_row] at c5
          refine And.intro (vp_in_nI (N := 36) (hlt ‹_›) (by decide)) ?_
          refine And.intro (fun c6 => ?_) (fun c6 => ?_)
          · try simp only [b01_eq, b01_ne, Classical.not_not, upS_row] at c6
            first
            | exact K34 _ (hlt ‹_›) (f0_yes ek ‹_› ‹_›)
            | exact K34 _ (hlt ‹_›) (f0_no1 ‹_›)
            | exact K34 _ (hlt ‹_›) (f0_no2 ek ‹_›)
          · try simp only [b01_eq, b01_ne, Classical.not_not, upS_row] at c6
            first
            | exact K34 _ (hlt ‹_›) (f0_yes ek ‹_› ‹_›)
            | exact K34 _ (hlt ‹_›) (f0_no1 ‹_›)
            | exact K34 _ (hlt ‹_›) (f0_no2 ek ‹_›)
  refine runM_ok rkX9_ways hm (fun p => Nat.beq p 2 || Nat.beq p 34 || Nat.beq p 43 || Nat.beq p 51 || Nat.beq p 60 || Nat.beq p 133 || Nat.beq p 143) 200 _ _ _ _ ?_
  have e9 := loop2 36 0 (by omega) (by omega)
  rw [sFn_0] at e9
  exact e9

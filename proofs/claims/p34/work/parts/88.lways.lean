
/-! THE LAW'S ways -/
/-- one step of the measuring would better a cell: j = 4 * cell + side -/
def wImp (σ : MS) (g : Nat → Nat) (j : Nat) : Prop := opn σ (j / 4) ∧ hb σ (j / 4) (j % 4) ∧ g (stp (j / 4) (j % 4)) + 1 < g (j / 4)
def wSum (g : Nat → Nat) : Nat → Nat
  | 0 => 0
  | n + 1 => wSum g n + g n
def gU (g : Nat → Nat) (k v : Nat) : Nat → Nat := fun i => if i = k then v else g i
theorem gU_s {g : Nat → Nat} {k v : Nat} : gU g k v k = v := if_pos rfl
theorem gU_o {g : Nat → Nat} {k v i : Nat} (h : i ≠ k) : gU g k v i = g i := if_neg h
theorem wSum_cong {g g' : Nat → Nat} : ∀ n, (∀ i, i < n → g' i = g i) → wSum g' n = wSum g n
  | 0, _ => rfl
  | n + 1, h => by unfold wSum; rw [wSum_cong n (fun i hi => h i (by omega)), h n (by omega)]
theorem wSum_U {g : Nat → Nat} {k v : Nat} (h : v < g k) : ∀ n, k < n → wSum (gU g k v) n < wSum g n
  | 0, hk => by omega
  | n + 1, hk => by
    unfold wSum
    by_cases e : k = n
    · subst e
      have z : wSum (gU g k v) k = wSum g k := wSum_cong k (fun i hi => gU_o (by omega))
      rw [gU_s, z]
      omega
    · have := wSum_U h n (by omega)
      rw [gU_o (fun z => e z.symm)]
      omega
/-- what stands in the row: lengths of ways, or 99; at the end of the ways 0 -/
def gW (σ : MS) (t : Int32) (g : Nat → Nat) : Prop := (∀ k, k < 36 → g k ≤ 99 ∧ (g k < 99 → rP σ t (g k) k)) ∧ ∀ k, k < 36 → nI k = t → opn σ k → g k = 0
theorem gW_imp {σ : MS} {t : Int32} {g : Nat → Nat} {j : Nat} (ho : hOK σ) (hj : j < 144) (H : gW σ t g) (hi : wImp σ g j) : gW σ t (gU g (j / 4) (g (stp (j / 4) (j % 4)) + 1)) := by
  obtain ⟨h1, h2, h3⟩ := hi
  have hb36 : stp (j / 4) (j % 4) < 36 := stp_lt (by omega) (ho _ _ (by omega) (by omega) h2) (by omega)
  have hk := (H.1 (j / 4) (by omega)).1
  refine ⟨fun k hk36 => ?_, fun k hk36 e o => ?_⟩
  · by_cases e : k = j / 4
    · subst e
      rw [gU_s]
      exact ⟨by omega, fun _ => ⟨h1, j % 4, by omega, h2, (H.1 _ hb36).2 (by omega)⟩⟩
    · rw [gU_o e]; exact H.1 k hk36
  · have z := H.2 k hk36 e o
    by_cases e2 : k = j / 4
    · subst e2; omega
    · rw [gU_o e2]; exact z
theorem fix_le {σ : MS} {t : Int32} {g : Nat → Nat} (ho : hOK σ) (H : gW σ t g) (hf : ∀ j, j < 144 → ¬ wImp σ g j) : ∀ n k, k < 36 → rP σ t n k → g k ≤ n
  | 0, k, hk, hp => Nat.le_of_eq (H.2 k hk hp.1 hp.2)
  | n + 1, k, hk, hp => by
    obtain ⟨h1, s, hs, h2, h3⟩ := hp
    have a := fix_le ho H hf n _ (stp_lt hk (ho k s hk hs h2) hs) h3
    have b := hf (4 * k + s) (by omega)
    unfold wImp at b
    rw [show (4 * k + s) / 4 = k from by omega, show (4 * k + s) % 4 = s from by omega] at b
    have : ¬ g (stp k s) + 1 < g k := fun z => b ⟨h1, h2, z⟩
    omega
/-- how many of the first n cells have at most v -/
def wCnt (g : Nat → Nat) (v : Nat) : Nat → Nat
  | 0 => 0
  | n + 1 => wCnt g v n + if g n ≤ v then 1 else 0
theorem wCnt_le {g : Nat → Nat} {v : Nat} : ∀ n, wCnt g v n ≤ n
  | 0 => Nat.le_refl _
  | n + 1 => by have := wCnt_le (g := g) (v := v) n; unfold wCnt; split <;> omega
theorem wCnt_mono {g : Nat → Nat} {v : Nat} : ∀ n, wCnt g v n ≤ wCnt g (v + 1) n
  | 0 => Nat.le_refl _
  | n + 1 => by
    have := wCnt_mono (g := g) (v := v) n
    unfold wCnt
    by_cases e : g n ≤ v
    · rw [if_pos e, if_pos (by omega)]; omega
    · rw [if_neg e]; omega
theorem wCnt_lt {g : Nat → Nat} {v k : Nat} (h : g k = v + 1) : ∀ n, k < n → wCnt g v n < wCnt g (v + 1) n
  | 0, hk => by omega
  | n + 1, hk => by
    unfold wCnt
    by_cases e : k = n
    · subst e
      have := wCnt_mono (g := g) (v := v) k
      rw [if_neg (by omega), if_pos (by omega)]; omega
    · have := wCnt_lt h n (by omega)
      by_cases e : g n ≤ v
      · rw [if_pos e, if_pos (by omega)]; omega
      · rw [if_neg e]; omega
theorem wCnt_pos {g : Nat → Nat} {k : Nat} (h : g k = 0) : ∀ n, k < n → 0 < wCnt g 0 n
  | 0, hk => by omega
  | n + 1, hk => by
    unfold wCnt
    by_cases e : k = n
    · subst e; rw [if_pos (by omega)]; omega
    · have := wCnt_pos h n (by omega); omega
theorem wCnt_all {σ : MS} {t : Int32} {g : Nat → Nat} (ho : hOK σ) (H : gW σ t g) (hf : ∀ j, j < 144 → ¬ wImp σ g j) : ∀ v k, k < 36 → g k = v → v < 99 → v < wCnt g v 36
  | 0, k, hk, e, _ => wCnt_pos e 36 hk
  | v + 1, k, hk, e, h9 => by
    have hp := (H.1 k hk).2 (by omega)
    rw [e] at hp
    obtain ⟨h1, s, hs, h2, h3⟩ := hp
    have hb36 := stp_lt hk (ho k s hk hs h2) hs
    have a := fix_le ho H hf v _ hb36 h3
    have b := hf (4 * k + s) (by omega)
    unfold wImp at b
    rw [show (4 * k + s) / 4 = k from by omega, show (4 * k + s) % 4 = s from by omega] at b
    have c : ¬ g (stp k s) + 1 < g k := fun z => b ⟨h1, h2, z⟩
    have d := wCnt_all ho H hf v (stp k s) hb36 (by omega) (by omega)
    have := wCnt_lt e 36 hk
    omega
/-- where no step betters any more stand the shortest ways -/
theorem fix_dst {σ : MS} {t : Int32} {g : Nat → Nat} (ho : hOK σ) (H : gW σ t g) (hf : ∀ j, j < 144 → ¬ wImp σ g j) {k : Nat} (hk : k < 36) : g k = if dst σ t k < 36 then dst σ t k else 99 := by
  obtain ⟨d1, d2, d3⟩ := dst_isD (t := t) ho k hk
  have h9 := (H.1 k hk).1
  by_cases c : g k < 99
  · have q := wCnt_all ho H hf (g k) k hk rfl c
    have q2 := wCnt_le (g := g) (v := g k) 36
    have q3 := d3 (g k) (by omega) ((H.1 k hk).2 c)
    rw [if_pos (by omega)]
    exact Nat.le_antisymm (fix_le ho H hf _ k hk (d2 (by omega))) q3
  · rw [if_neg (fun z => ?_)]
    · omega
    · have := fix_le ho H hf _ k hk (d2 z)
      omega
def farR (l : LSt) (σ : MS) (t : Int32) : Prop := ∀ k, k < 36 → l 10 k = nI (if dst σ t k < 36 then dst σ t k else 99)
/-- a step of the measuring: what stands after it -/
def wStp (σ : MS) (g : Nat → Nat) (j : Nat) : Nat → Nat := gU g (j / 4) (if opn σ (j / 4) ∧ hb σ (j / 4) (j % 4) ∧ g (stp (j / 4) (j % 4)) + 1 < g (j / 4) then g (stp (j / 4) (j % 4)) + 1 else g (j / 4))
/-- a sweep up to j: s the sum before it, c whether something was bettered -/
def wSw (σ : MS) (t : Int32) (s c j : Nat) (g : Nat → Nat) : Prop := gW σ t g ∧ c ≤ 1 ∧ wSum g 36 ≤ s ∧ (c = 0 → ∀ i, i < j → ¬ wImp σ g i) ∧ (c = 1 → wSum g 36 < s)
theorem gU_id {g : Nat → Nat} {k : Nat} : gU g k (g k) = g := funext fun i => by
  unfold gU
  split
  · rename_i e; rw [e]
  · rfl
theorem wSw_y {σ : MS} {t : Int32} {s c j : Nat} {g : Nat → Nat} (ho : hOK σ) (hj : j < 144) (H : wSw σ t s c j g) (hi : wImp σ g j) : wSw σ t s 1 (j + 1) (gU g (j / 4) (g (stp (j / 4) (j % 4)) + 1)) := by
  obtain ⟨h1, h2, h3, h4, h5⟩ := H
  have := wSum_U (g := g) (k := j / 4) (v := g (stp (j / 4) (j % 4)) + 1) hi.2.2 36 (by omega)
  exact ⟨gW_imp ho hj h1 hi, Nat.le_refl _, by omega, fun z => by omega, fun _ => by omega⟩
theorem wSw_n {σ : MS} {t : Int32} {s c j : Nat} {g : Nat → Nat} (H : wSw σ t s c j g) (hi : ¬ wImp σ g j) : wSw σ t s c (j + 1) g := by
  obtain ⟨h1, h2, h3, h4, h5⟩ := H
  refine ⟨h1, h2, h3, fun z i hij => ?_, h5⟩
  by_cases e : i = j
  · subst e; exact hi
  · exact h4 z i (by omega)
theorem gW_0 {σ : MS} {q : Nat} (hq : q < 36) : gW σ (nI q) (fun i => if i = q ∧ opn σ i then 0 else 99) := by
  refine ⟨fun k hk => ?_, fun k hk e o => ?_⟩
  · show (if k = q ∧ opn σ k then 0 else 99) ≤ 99 ∧ ((if k = q ∧ opn σ k then 0 else 99) < 99 → rP σ (nI q) (if k = q ∧ opn σ k then 0 else 99) k)
    by_cases c : k = q ∧ opn σ k
    · rw [if_pos c]; exact ⟨by omega, fun _ => ⟨by rw [c.1], c.2⟩⟩
    · rw [if_neg c]; exact ⟨by omega, fun z => by omega⟩
  · have z := congrArg Int32.toNatClampNeg e
    rw [nI_clamp (by omega), nI_clamp (by omega)] at z
    exact if_pos ⟨z, o⟩

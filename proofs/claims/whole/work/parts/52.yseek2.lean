
/-! THE COMPONENT'S WAYS, 7: seek -/
def skH (m : AH) (p N : Nat) (g : Nat → Nat) : Nat → AH
  | 0 => nO m (tC p) 11 N
  | i + 1 => sI (skH m p N g i) (tC p) i (nI (g i))
theorem skH_T {m : AH} {p N t : Nat} {g : Nat → Nat} (h : t ≠ tC p) : ∀ i, gT (skH m p N g i) t = gT m t
  | 0 => by show gT (nO m (tC p) 11 N) t = _; rw [gT_nO, if_neg h]
  | i + 1 => (skH_T h i : gT (skH m p N g i) t = gT m t)
theorem skH_TC {m : AH} {p N : Nat} {g : Nat → Nat} : ∀ i, gT (skH m p N g i) (tC p) = 11 ∧ gN (skH m p N g i) (tC p) = N
  | 0 => ⟨by show gT (nO m (tC p) 11 N) (tC p) = _; rw [gT_nO, if_pos rfl], by show gN (nO m (tC p) 11 N) (tC p) = _; rw [gN_nO, if_pos rfl]⟩
  | i + 1 => (skH_TC i : gT (skH m p N g i) (tC p) = 11 ∧ gN (skH m p N g i) (tC p) = N)
theorem skH_R {m : AH} {p N t j : Nat} {g : Nat → Nat} (h : t ≠ tC p) : ∀ i, gR (skH m p N g i) t j = gR m t j
  | 0 => by show gR (nO m (tC p) 11 N) t j = _; rw [gR_nO, if_neg h]
  | i + 1 => (skH_R h i : gR (skH m p N g i) t j = gR m t j)
theorem skH_I {m : AH} {p N t j : Nat} {g : Nat → Nat} (h : t ≠ tC p) : ∀ i, gI (skH m p N g i) t j = gI m t j
  | 0 => by show gI (nO m (tC p) 11 N) t j = _; rw [gI_nO, if_neg h]
  | i + 1 => by show gI (sI (skH m p N g i) (tC p) i (nI (g i))) t j = _; rw [gI_sI, if_neg (fun z => h z.1)]; exact skH_I h i
theorem skH_SG {m : AH} {p N : Nat} {g : Nat → Nat} (h : SG m) : ∀ i, SG (skH m p N g i)
  | 0 => SG_nO h (fun i _ z => tC_S.mp z)
  | i + 1 => (skH_SG h i : SG (skH m p N g i))
theorem skH_Rm {m : AH} {p N nb : Nat} {g : Nat → Nat} {σ : MS} (h : hRm m σ nb) (i : Nat) : hRm (skH m p N g i) σ nb := by
  obtain ⟨a, b, d⟩ := h
  have e1 : ∀ c j, gI (skH m p N g i) (tR c) j = gI m (tR c) j := fun c j => skH_I (fun z => tR_C.mp z) i
  refine ⟨fun c hc => (skH_R (fun z => tC_S.mp z.symm) i).trans (a c hc), fun c hc hn => ?_, fun c hc he => (skH_T (fun z => tR_C.mp z) i).trans (d c hc he)⟩
  obtain ⟨⟨p0, p1, p2, p3, p4, p5, p6⟩, j, hj⟩ := b c hc hn
  exact ⟨⟨(skH_T (fun z => tR_C.mp z) i).trans p0, (e1 _ _).trans p1, (skH_R (fun z => tR_C.mp z) i).trans p2, (e1 _ _).trans p3, (e1 _ _).trans p4, (e1 _ _).trans p5, (e1 _ _).trans p6⟩, j, hj⟩
theorem skH_ln {m : AH} {p N : Nat} {g : Nat → Nat} {σ : MS} {i c s : Nat} : lnP (skH m p N g i) σ c s ↔ lnP m σ c s := by
  unfold lnP
  rw [skH_I (fun z => tR_C.mp z) i, skH_I (fun z => tR_C.mp z) i]

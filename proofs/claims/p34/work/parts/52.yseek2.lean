/-! THE COMPONENT'S WAYS, 7: seek -/
def skH (m : AH) (p N : Nat) (g : Nat → Nat) : Nat → AH
  | 0 => nO m (tC p) 11 N
  | i + 1 => sI (skH m p N g i) (tC p) i (nI (g i))
theorem skH_T {m : AH} {p N t : Nat} {g : Nat → Nat} (h : t ≠ tC p) : ∀ i, gT (skH m p N g i) t = gT m t
  | 0 => by show gT (nO m (tC p) 11 N) t = _; rw [gT_nO, if_neg h]
  | i + 1 => (skH_T h i : gT (skH m p N g i) t = gT m t)
theorem skH_TC {m : AH} {p N : Nat} {g : Nat → Nat} : ∀ i, gT (skH m p N g i) (tC p) = 11 ∧ gN (skH m p N g i) (tC p) = N
  | 0 => ⟨by show gT (nO m (tC p) 11 N) (tC p) = _; rw [gT_nO, if_pos rfl], by show gN (nO m (tC p) 11 N) (tC p) = _; rw [gN_nO, if_pos rfl]⟩
  | i + 1 => (skH_TC i : gT (skH m p N g i) (tC p) = 11 ∧ gN (skH m p N g i) (tC p) = N)
theorem skH_R {m : AH} {p N t j : Nat} {g : Nat → Nat} (h : t ≠ tC p) : ∀ i, gR (skH m p N g i) t j = gR m t j
  | 0 => by show gR (nO m (tC p) 11 N) t j = _; rw [gR_nO, if_neg h]
  | i + 1 => (skH_R h i : gR (skH m p N g i) t j = gR m t j)
theorem skH_I {m : AH} {p N t j : Nat} {g : Nat → Nat} (h : t ≠ tC p) : ∀ i, gI (skH m p N g i) t j = gI m t j
  | 0 => by show gI (nO m (tC p) 11 N) t j = _; rw [gI_nO, if_neg h]
  | i + 1 => by show gI (sI (skH m p N g i) (tC p) i (nI (g i))) t j = _; rw [gI_sI, if_neg (fun z => h z.1)]; exact skH_I h i
theorem skH_SG {m : AH} {p N : Nat} {g : Nat → Nat} (h : SG m) : ∀ i, SG (skH m p N g i)
  | 0 => SG_nO h (fun i _ z => tC_S.mp z)
  | i + 1 => (skH_SG h i : SG (skH m p N g i))
theorem skH_Rm {m : AH} {p N nb : Nat} {g : Nat → Nat} {σ : MS} (h : hRm m σ nb) (i : Nat) : hRm (skH m p N g i) σ nb := by
  obtain ⟨a, b, d⟩ := h
  have e1 : ∀ c j, gI (skH m p N g i) (tR c) j = gI m (tR c) j := fun c j => skH_I (fun z => tR_C.mp z) i
  refine ⟨fun c hc => (skH_R (fun z => tC_S.mp z.symm) i).trans (a c hc), fun c hc hn => ?_, fun c hc he => (skH_T (fun z => tR_C.mp z) i).trans (d c hc he)⟩
  obtain ⟨⟨p0, p1, p2, p3, p4, p5, p6⟩, j, hj⟩ := b c hc hn
  exact ⟨⟨(skH_T (fun z => tR_C.mp z) i).trans p0, (e1 _ _).trans p1, (skH_R (fun z => tR_C.mp z) i).trans p2, (e1 _ _).trans p3, (e1 _ _).trans p4, (e1 _ _).trans p5, (e1 _ _).trans p6⟩, j, hj⟩
theorem skH_ln {m : AH} {p N : Nat} {g : Nat → Nat} {σ : MS} {i c s : Nat} : lnP (skH m p N g i) σ c s ↔ lnP m σ c s := by
  unfold lnP
  rw [skH_I (fun z => tR_C.mp z) i, skH_I (fun z => tR_C.mp z) i]

theorem zrH_T {κ : AH} {σ : MS} {t : Nat} : ∀ c, gT (zrH κ σ c) t = gT κ t
  | 0 => rfl
  | c + 1 => by unfold zrH; split <;> exact zrH_T c
theorem saH_T {κ : AH} {σ : MS} {a : Int32} {t : Nat} : ∀ c, gT (saH κ σ a c) t = gT κ t
  | 0 => rfl
  | c + 1 => by
    unfold saH
    split
    · exact (spH_T 4).trans (saH_T c)
    · exact saH_T c
theorem bfH_T {κ : AH} {σ : MS} {t : Nat} : ∀ k, gT (bfH κ σ k).1 t = gT κ t
  | 0 => rfl
  | k + 1 => by
    unfold bfH
    split
    · exact bfH_T k
    · exact (saH_T 36).trans (bfH_T k)
theorem meH_T {κ : AH} {σ : MS} {b t : Nat} : gT (meH κ σ b) t = gT κ t := by
  unfold meH
  split
  · exact zrH_T 36
  · exact (bfH_T 35).trans (zrH_T 36 : gT (zrH κ σ 36) t = gT κ t)
theorem meH_SG {κ : AH} {σ : MS} {b : Nat} (h : SG κ) : SG (meH κ σ b) := by
  unfold meH
  split
  · exact zrH_SG h 36
  · have h1 : SG (sI (zrH κ σ 36) (tR b) 6 1) := (zrH_SG h 36 : SG (zrH κ σ 36))
    exact bfH_SG h1 35
theorem meH_R {κ : AH} {σ : MS} {nb b : Nat} (h : hRm κ σ nb) : hRm (meH κ σ b) σ nb := by
  unfold meH
  split
  · exact zrH_R h 36
  · exact bfH_R (hRm_a (zrH_R h 36)) 35
set_option maxRecDepth 20000 in
theorem c_X5_seek {w : W0} {κ : AH} {a b p N : Nat} {σ : MS} {nb : Nat} {g : Nat → Nat} (hG : SG κ) (hR : hRm κ σ nb) (ho : hOK σ) (ha : a < 36) (hfa : ¬ σ.2 25 a = -1) (hb : b < 36) (hfb : ¬ σ.2 25 b = -1) (hfree : gT κ (tC p) = 0) (hN1 : 1 ≤ N) (hN : N ≤ 36) (hF : gI (meH κ σ b) (tR a) 6 = nI N) (g0 : g 0 = a) (hg : ∀ i, i < N → g i < 36 ∧ ¬ σ.2 25 (g i) = -1) (hs : ∀ i, i + 1 < N → ∃ s, s < 4 ∧ lnP (meH κ σ b) σ (g i) s ∧ (∀ r, r < s → ¬ lnP (meH κ σ b) σ (g i) r) ∧ g (i + 1) = stp (g i) (sd s)) : CY w yX5_seek mX5_seek [.ref (tS 2), .ref (tR a), .ref (tR b)] κ (fun v κ' => v = some (.ref (tC p)) ∧ κ' = skH (meH κ σ b) p N g N) := by
  refine CY_of mcX5_seek (Nat.le_of_ble_eq_true rfl) (cat1 rfl) (fun θ0 => ?_)
  have hGm : SG (meH κ σ b) := meH_SG hG
  have hRm1 : hRm (meH κ σ b) σ nb := meH_R hR
  have hra : gT (meH κ σ b) (tR a) = 5 := (hRm1.2.1 a ha hfa).1.1
  have loop28 : ∀ (m i : Nat) (x4 : Value), i ≤ N → N ≤ m + i → (i < N → x4 = .ref (tR (g i))) → Y w mX5_seek θ0 κ (fun v κ' => v = some (.ref (tC p)) ∧ κ' = skH (meH κ σ b) p N g N) (fun _ _ => False) 1 N 28 [some (.ref (tS 2)), some (.ref (tR a)), some (.ref (tR b)), some (.ref (tC p)), some (x4), some (.int (nI i))] [] (skH (meH κ σ b) p N g i) := by
    intro m
    induction m with
    | zero =>
      intro i x4 hk1 hk2 hx
      have hGi : SG (skH (meH κ σ b) p N g i) := skH_SG hGm i
      have hex : Int32.ofNat (gN (skH (meH κ σ b) p N g i) (tC p)) ≤ nI i → i = N := by rw [(skH_TC i).2]; intro z; have := (nI_leI (a := N) (by omega) (by omega)).mp z; omega
      have hlt : ¬ Int32.ofNat (gN (skH (meH κ σ b) p N g i) (tC p)) ≤ nI i → i < N := by rw [(skH_TC i).2]; intro z; exact Nat.lt_of_not_le (fun q => z (nI_le (a := N) q (by omega)))
      refine runY_go rkX5_seek (fun p => Nat.beq p 28 || Nat.beq p 63) 200 rfl ?_
      refine And.intro (show 11 ≤ gT (skH (meH κ σ b) p N g i) (tC p) from by rw [(skH_TC i).1]; decide) ?_
      refine And.intro (fun c0 => ?_) (fun c0 => ?_)
      · skip
        have hk := hex (by assumption)
        subst hk
        refine runY_go rkX5_seek noCut 5 rfl ?_
        refine And.intro ⟨Nat.le_of_ble_eq_true rfl, (show i ≤ 36 by omega)⟩ ?_
        exact ⟨rfl, rfl⟩
      · exact absurd (hlt c0) (by omega)
    | succ m ih =>
      intro i x4 hk1 hk2 hx
      have hGi : SG (skH (meH κ σ b) p N g i) := skH_SG hGm i
      have hex : Int32.ofNat (gN (skH (meH κ σ b) p N g i) (tC p)) ≤ nI i → i = N := by rw [(skH_TC i).2]; intro z; have := (nI_leI (a := N) (by omega) (by omega)).mp z; omega
      have hlt : ¬ Int32.ofNat (gN (skH (meH κ σ b) p N g i) (tC p)) ≤ nI i → i < N := by rw [(skH_TC i).2]; intro z; exact Nat.lt_of_not_le (fun q => z (nI_le (a := N) q (by omega)))
      refine runY_go rkX5_seek (fun p => Nat.beq p 28 || Nat.beq p 63) 200 rfl ?_
      refine And.intro (show 11 ≤ gT (skH (meH κ σ b) p N g i) (tC p) from by rw [(skH_TC i).1]; decide) ?_
      refine And.intro (fun c0 => ?_) (fun c0 => ?_)
      · skip
        have hk := hex (by assumption)
        subst hk
        refine runY_go rkX5_seek noCut 5 rfl ?_
        refine And.intro ⟨Nat.le_of_ble_eq_true rfl, (show i ≤ 36 by omega)⟩ ?_
        exact ⟨rfl, rfl⟩
      · skip
        have hi := hlt c0
        obtain ⟨q1, q2⟩ := hg i hi
        have hpr := ((skH_Rm (p := p) (N := N) (g := g) hRm1 i).2.1 (g i) q1 q2).1
        have hri := hpr.1
        rw [hx hi]
        refine And.intro hri ?_
        refine And.intro ⟨(skH_TC i).1, by rw [(skH_TC i).2]; exact vp_in_nI hi (by omega)⟩ ?_
        rw [hpr.2.1, nI_clamp (n := i) (by omega)]
        have hpr1 := ((skH_Rm (p := p) (N := N) (g := g) hRm1 (i + 1)).2.1 (g i) q1 q2).1
        refine pX5_seek_52 (κ := (skH (meH κ σ b) p N g (i + 1))) rfl rfl (Nat.ble_eq_true_of_le (by omega)) (skH_SG hGm (i + 1)).t2 (c_X5_lowestNearer (skH_SG hGm (i + 1)) (skH_Rm hRm1 (i + 1)) ho hpr1 q1) (fun v κ1 hq ho1 hk1 => ?_)
        obtain ⟨hv, e⟩ := hq
        rw [e]
        rcases hv with ⟨s, z1, z2, z3, rfl⟩ | ⟨z1, rfl⟩
        · skip
          refine runY_ok rkX5_seek (fun p => Nat.beq p 28 || Nat.beq p 63) 200 _ _ _ _ _ _ ?_
          have e9 := ih (i + 1) (.ref (tR (stp (g i) (sd s)))) (by omega) (by omega) (fun hi2 => by obtain ⟨r, y1, y2, y3, y4⟩ := hs i hi2; have : s = r := (Nat.lt_trichotomy s r).elim (fun q => absurd (skH_ln.mp z2) (y3 s q)) (fun q => q.elim id (fun q => absurd (skH_ln.mpr y2) (z3 r q))); rw [y4, this])
          rw [← nI_1 i] at e9
          exact e9
        · skip
          refine runY_ok rkX5_seek (fun p => Nat.beq p 28 || Nat.beq p 63) 200 _ _ _ _ _ _ ?_
          have e9 := ih (i + 1) .null (by omega) (by omega) (fun hi2 => by obtain ⟨r, y1, y2, y3, y4⟩ := hs i hi2; exact absurd (skH_ln.mpr y2) (z1 r y1))
          rw [← nI_1 i] at e9
          exact e9
  refine runY_ok rkX5_seek (fun p => Nat.beq p 28 || Nat.beq p 63) 200 _ _ _ _ _ _ ?_
  refine pX5_seek_2 rfl rfl rfl hG.t2 (c_X5_measure hG hR ho hb hfb) (fun v κ1 hq ho1 hk1 => ?_)
  obtain ⟨rfl, e⟩ := hq
  rw [e]
  refine runY_ok rkX5_seek (fun p => Nat.beq p 28 || Nat.beq p 63) 200 _ _ _ _ _ _ ?_
  refine And.intro hra ?_
  rw [hF]
  refine And.intro (fun _ => ?_) (fun c0 => absurd (nI_le (a := 1) hN1 (by omega)) c0)
  refine And.intro hra ?_
  rw [hF]
  refine pX5_seek_19 (tC p) N rfl hN rfl (by omega) (meH_T.trans hfree) ?_
  refine runY_ok rkX5_seek (fun p => Nat.beq p 28 || Nat.beq p 63) 200 _ _ _ _ _ _ ?_
  have e9 := loop28 N 0 (.ref (tR a)) (by omega) (by omega) (fun _ => by rw [g0])
  simp only [Nat.zero_add, Nat.add_zero]
  exact e9


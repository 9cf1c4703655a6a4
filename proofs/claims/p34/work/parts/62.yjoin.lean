/-! THE COMPONENT'S join -/
theorem sI_sI {h : AH} {o k o' k' : Nat} {v v' : Int32} (hne : ¬ (o = o' ∧ k = k')) : sI (sI h o k v) o' k' v' = sI (sI h o' k' v') o k v := by
  refine congrArg (fun z => ((h.1, h.2.1, z, h.2.2.2) : AH)) (funext fun b => funext fun j => ?_)
  show (if b = o' ∧ j = k' then v' else if b = o ∧ j = k then v else gI h b j) = if b = o ∧ j = k then v else if b = o' ∧ j = k' then v' else gI h b j
  by_cases e : b = o' ∧ j = k'
  · rw [if_pos e, if_neg (fun z => hne ⟨z.1.symm.trans e.1, z.2.symm.trans e.2⟩), if_pos e]
  · rw [if_neg e, if_neg e]
theorem sR_sR {h : AH} {o k o' k' : Nat} {v v' : Option Nat} (hne : ¬ (o = o' ∧ k = k')) : sR (sR h o k v) o' k' v' = sR (sR h o' k' v') o k v := by
  refine congrArg (fun z => ((h.1, h.2.1, h.2.2.1, z, h.2.2.2.2) : AH)) (funext fun b => funext fun j => ?_)
  show (if b = o' ∧ j = k' then v' else if b = o ∧ j = k then v else gR h b j) = if b = o ∧ j = k then v else if b = o' ∧ j = k' then v' else gR h b j
  by_cases e : b = o' ∧ j = k'
  · rw [if_pos e, if_neg (fun z => hne ⟨z.1.symm.trans e.1, z.2.symm.trans e.2⟩), if_pos e]
  · rw [if_neg e, if_neg e]
theorem sI_nO {h : AH} {o k t c n : Nat} {v : Int32} (hne : o ≠ t) : sI (nO h t c n) o k v = nO (sI h o k v) t c n := by
  refine congrArg (fun z => (((nO h t c n).1, (nO h t c n).2.1, z, (nO h t c n).2.2.2) : AH)) (funext fun b => funext fun j => ?_)
  show (if b = o ∧ j = k then v else if b = t then 0 else gI h b j) = if b = t then 0 else if b = o ∧ j = k then v else gI h b j
  by_cases e : b = t
  · rw [if_pos e, if_neg (fun z => hne (z.1.symm.trans e)), if_pos e]
  · rw [if_neg e, if_neg e]
theorem sR_nO {h : AH} {o k t c n : Nat} {v : Option Nat} (hne : o ≠ t) : sR (nO h t c n) o k v = nO (sR h o k v) t c n := by
  refine congrArg (fun z => (((nO h t c n).1, (nO h t c n).2.1, (nO h t c n).2.2.1, z, (nO h t c n).2.2.2.2) : AH)) (funext fun b => funext fun j => ?_)
  show (if b = o ∧ j = k then v else if b = t then none else gR h b j) = if b = t then none else if b = o ∧ j = k then v else gR h b j
  by_cases e : b = t
  · rw [if_pos e, if_neg (fun z => hne (z.1.symm.trans e)), if_pos e]
  · rw [if_neg e, if_neg e]
theorem kp_sI {h : AH} {o k nb b : Nat} {v : Int32} (hne : ¬ (o = tS 4 ∧ k = 7)) : kpH (sI h o k v) nb b = sI (kpH h nb b) o k v := by
  unfold kpH
  rw [show sR (sI h o k v) (tS 5) nb (some b) = sI (sR h (tS 5) nb (some b)) o k v from rfl, sI_sI hne]
theorem kp_sR {h : AH} {o k nb b : Nat} {v : Option Nat} (hne : ¬ (o = tS 5 ∧ k = nb)) : kpH (sR h o k v) nb b = sR (kpH h nb b) o k v := by
  unfold kpH
  rw [sR_sR hne]
  rfl
theorem kp_nO {h : AH} {o c n nb b : Nat} (h4 : tS 4 ≠ o) (h5 : tS 5 ≠ o) : kpH (nO h o c n) nb b = nO (kpH h nb b) o c n := by
  unfold kpH
  rw [sR_nO h5, sI_nO h4]
theorem kp_I {h : AH} {t p nb b : Nat} (hne : ¬ (t = tS 4 ∧ p = 7)) : gI (kpH h nb b) t p = gI h t p := by
  unfold kpH
  rw [gI_sI, if_neg hne, gI_sR]
theorem kp_sp {σ : MS} {h : AH} {x : Int32} {nb b : Nat} : kpH (spR σ h x) nb b = spR σ (kpH h nb b) x := by
  unfold spR
  split
  · rw [kp_sI (fun z => tR_S.mp z.1)]
  · rfl
theorem kp_wd {h : AH} {k nb b : Nat} {y : Int32} : kpH (wdH h k y) nb b = wdH (kpH h nb b) k y := by
  unfold wdH flw
  rw [kp_sI (fun z => tW_S.mp z.1), kp_sI (fun z => tW_S.mp z.1), kp_sI (fun z => absurd (tS_inj.mp z.1) (by decide)), kp_I (fun z => absurd (tS_inj.mp z.1) (by decide)), kp_I (fun z => absurd (tS_inj.mp z.1) (by decide))]
theorem kp_wn {h : AH} {σ : MS} {k j nb b : Nat} {y : Int32} : kpH (wnH h σ k j y) nb b = wnH (kpH h nb b) σ k j y := by
  unfold wnH
  rw [kp_I (fun z => tW_S.mp z.1), kp_I (fun z => tB_S.mp z.1)]
  split
  · rw [kp_sp, kp_sp, kp_wd]
  · exact kp_wd
theorem kp_en {h : AH} {n nb b : Nat} {x : Int32} : kpH (enH h n x) nb b = enH (kpH h nb b) n x := by
  unfold enH
  rw [kp_sI (fun z => absurd (tS_inj.mp z.1) (by decide)), kp_sI (fun z => absurd (tS_inj.mp z.1) (by decide)), kp_sI (fun z => absurd (tS_inj.mp z.1) (by decide)), kp_I (fun z => absurd (tS_inj.mp z.1) (by decide))]
theorem kp_a2 {h : AH} {nw j nb b : Nat} {f : Int32} : kpH (a2H h nw j f) nb b = a2H (kpH h nb b) nw j f := by
  unfold a2H a1H
  rw [kp_sI (fun z => absurd z.2 (by decide)), kp_sR (fun z => absurd (tS_inj.mp z.1) (by decide)), kp_sI (fun z => tW_S.mp z.1), kp_sI (fun z => tW_S.mp z.1), kp_sI (fun z => tW_S.mp z.1), kp_sI (fun z => tW_S.mp z.1), kp_sR (fun z => tW_S.mp z.1), kp_nO (fun z => tS_W.mp z) (fun z => tS_W.mp z)]
theorem kp_mw {h : AH} {σ : MS} {nw j n nb b : Nat} {f y : Int32} : kpH (mwH h σ nw j f y n) nb b = mwH (kpH h nb b) σ nw j f y n := by
  unfold mwH
  rw [kp_en, kp_wn, kp_a2]
theorem kp_pr {h : AH} {a n nb b : Nat} : kpH (prH h a n) nb b = prH (kpH h nb b) a n := by
  unfold prH
  rw [kp_sR (fun z => tB_S.mp z.1), kp_sI (fun z => tB_S.mp z.1)]
/-- what a new weld leaves -/
theorem mw_D {κ : AH} {σ : MS} {nw j n : Nat} {f y : Int32} : Dif (fun t => t = tW nw ∨ t = tS 6 ∨ t = tS 4 ∨ t = tS 3 ∨ (∃ c, t = tR c) ∨ t = tS 10 ∨ t = tS 1) κ (mwH κ σ nw j f y n) := by
  have D1 : Dif (fun t => t = tW nw ∨ t = tS 6 ∨ t = tS 4) κ (a2H κ nw j f) := (by repeat' first | exact Dif.rfl' | exact rfl | exact Or.inl rfl | exact Or.inr rfl | exact Or.inr (Or.inl rfl) | exact Or.inr (Or.inr rfl) | exact Or.inr (Or.inr (Or.inl rfl)) | exact Or.inr (Or.inr (Or.inr rfl)) | exact ⟨_, rfl⟩ | apply Dif.sI | apply Dif.sR | apply Dif.nO)
  have D2 : Dif (fun t => (t = tS 3 ∨ t = tW nw) ∨ ∃ c, t = tR c) (a2H κ nw j f) (wnH (a2H κ nw j f) σ nw j y) := by
    have D1 : Dif (fun t => (t = tS 3 ∨ t = tW nw) ∨ ∃ c, t = tR c) (a2H κ nw j f) (wdH (a2H κ nw j f) nw y) := ((Dif.rfl'.sI (Or.inl (Or.inl rfl))).sI (Or.inl (Or.inr rfl))).sI (Or.inl (Or.inr rfl))
    unfold wnH
    split
    · exact (D1.tr (spR_D.mono fun t z => Or.inr z)).tr (spR_D.mono fun t z => Or.inr z)
    · exact D1
  exact ((D1.mono fun t z => by grind).tr (D2.mono fun t z => by grind)).tr (enH_D.mono fun t z => by grind)
theorem mw_4 {κ : AH} {σ : MS} {nw j n p : Nat} {f y : Int32} (hp : p ≠ 8) : gI (mwH κ σ nw j f y n) (tS 4) p = gI κ (tS 4) p := by
  unfold mwH
  rw [enH_I (fun z => absurd (tS_inj.mp z) (by decide)) (fun z => absurd (tS_inj.mp z) (by decide)), wnH_S (by decide)]
  unfold a2H
  rw [gI_sI, if_neg (fun z => hp z.2), gI_sR, a1_I (fun z => tS_W.mp z)]
/-- what making a weld needs, where the block is not kept yet -/
theorem kp_un {J : AH} {σ : MS} {nb nb1 nw np k b : Nat} {wb : Nat → Nat} {T M m : Int32} {n : Nat} (h : RX (kpH J k b) σ nb nw np wb T M n m) : hRt J σ ∧ hCh J σ nb ∧ (∀ i, i < nb → gI J (tB i) 8 = σ.2 9 i) ∧ gI J (tS 4) 8 = σ.1 18 ∧ gT J (tW nw) = 0 ∧ gI J (tS 1) 1 = nI n ∧ ∀ i, i < nb → gI J (tB i) 0 = nI i ∧ gT J (tB i) = 1 := by
  obtain ⟨G, N, B, W, R, P, H, L⟩ := h
  have q : ∀ t p, t ≠ tS 5 → gR (kpH J k b) t p = gR J t p := fun t p ht => by
    unfold kpH
    rw [gR_sI, gR_sR, if_neg (fun z => ht z.1)]
  have q2 := hB.ch B
  refine ⟨⟨fun c hc => (q _ _ (fun z => absurd (tS_inj.mp z) (by decide))).symm.trans (R.1 c hc), fun c hc hn => (R.2.1 c hc hn).1.1⟩, fun i hi => ⟨(q2 i hi).1, (q _ _ (fun z => tB_S.mp z)).symm.trans (q2 i hi).2⟩, fun i hi => ?_, ?_, W.2.2 nw (Nat.le_refl _), ?_, fun i hi => ⟨?_, (B.2.1 i hi).1⟩⟩
  · rw [← (B.2.1 i hi).2.2.2.2.2.2.2.2.2.1, kp_I (fun z => tB_S.mp z.1)]
  · rw [← N.1.2.1, kp_I (fun z => absurd z.2 (by decide))]
  · rw [← L.1, kp_I (fun z => absurd (tS_inj.mp z.1) (by decide))]
  · rw [← (B.2.1 i hi).2.1, kp_I (fun z => tB_S.mp z.1)]
/-- the heap behind a join -/
def jnH (κ : AH) (σ : MS) (nb nw : Nat) (x y z : Int32) : AH := (mwH (prH (prH (nbH κ nb (σ.2 10 x.toNatClampNeg) (σ.2 11 y.toNatClampNeg) (σ.2 12 x.toNatClampNeg) (σ.2 13 x.toNatClampNeg + σ.2 13 y.toNatClampNeg + 1) (σ.2 14 x.toNatClampNeg + σ.2 14 y.toNatClampNeg - 3 + σ.2 12 x.toNatClampNeg) (σ.2 15 x.toNatClampNeg + σ.2 15 y.toNatClampNeg)) x.toNatClampNeg nb) y.toNatClampNeg nb) (prS (prS (nbS σ nb (σ.2 10 x.toNatClampNeg) (σ.2 11 y.toNatClampNeg) (σ.2 12 x.toNatClampNeg) (σ.2 13 x.toNatClampNeg + σ.2 13 y.toNatClampNeg + 1) (σ.2 14 x.toNatClampNeg + σ.2 14 y.toNatClampNeg - 3 + σ.2 12 x.toNatClampNeg) (σ.2 15 x.toNatClampNeg + σ.2 15 y.toNatClampNeg)) x.toNatClampNeg nb) y.toNatClampNeg nb) nw nb (σ.2 10 y.toNatClampNeg) z (nEn σ nb nw))
/-- the state behind a join, but for the weld -/
def jnS (σ : MS) (nb : Nat) (x y : Int32) : MS := (prS (prS (nbS σ nb (σ.2 10 x.toNatClampNeg) (σ.2 11 y.toNatClampNeg) (σ.2 12 x.toNatClampNeg) (σ.2 13 x.toNatClampNeg + σ.2 13 y.toNatClampNeg + 1) (σ.2 14 x.toNatClampNeg + σ.2 14 y.toNatClampNeg - 3 + σ.2 12 x.toNatClampNeg) (σ.2 15 x.toNatClampNeg + σ.2 15 y.toNatClampNeg)) x.toNatClampNeg nb) y.toNatClampNeg nb)
theorem kJ0 {σ : MS} {x y z : Int32} (h : kJoin σ x y z = 0) : cJoin σ x y ∧ ¬ σ.1 8 = 60 ∧ ¬ σ.1 18 = 100 := by
  unfold kJoin at h
  split at h
  · split at h
    · assumption
    · exact absurd h (by decide)
  · exact absurd h (by decide)
theorem nEn_lt {σ : MS} {nb nw np : Nat} (I : IV σ nb nw np) (h : nw < 100) : nEn σ nb nw + 2 < 337 := by
  have := I.le.2.2
  split at this <;> omega
theorem mw_SG {κ : AH} {σ : MS} {nw j n : Nat} {f y : Int32} (h : SG κ) : SG (mwH κ σ nw j f y n) := enH_SG (wnH_SG (a2_SG h))
/-- what a join needs to know -/
theorem jn_ne {σ : MS} {nb nw np : Nat} {x y : Int32} (I : IV σ nb nw np) (hx : x.toNatClampNeg < nb) (hc : cJoin σ x y) : ¬ y.toNatClampNeg = x.toNatClampNeg := by
  intro z
  have q := hc.1.2.2.2
  have r := (I.bk _ hx).1
  rw [z] at q
  obtain ⟨l, hl, el⟩ := vp_in_of (in_c (c := 11) (n := 12) (by decide) r.2.1) (by decide)
  obtain ⟨f, hf, ef⟩ := vp_in_of (in_c (c := 11) (n := 12) (by decide) r.1) (by decide)
  have r3 := r.2.2.1
  rw [el, ef, nI_clamp (by omega), nI_clamp (by omega)] at r3
  rw [el, ef, nI_1] at q
  have := (nI_eq (by omega) (by omega)).mp q
  omega
theorem jn_sum {σ : MS} {nb nw np : Nat} {x y : Int32} (I : IV σ nb nw np) (hx : x.toNatClampNeg < nb) (hy : y.toNatClampNeg < nb) (hc : cJoin σ x y) : 0 ≤ (σ.2 13 x.toNatClampNeg + σ.2 13 y.toNatClampNeg + 1) ∧ (σ.2 13 x.toNatClampNeg + σ.2 13 y.toNatClampNeg + 1) ≤ 1000 := by
  have a := i32b (l := 0) (u := 1000) (a := 0) (b := 1000) rfl rfl (I.bk _ hx).2.1
  have b := i32b (l := 0) (u := 1000) (a := 0) (b := 1000) rfl rfl (I.bk _ hy).2.1
  refine ⟨?_, Int32.le_trans hc.2.2 I.h1⟩
  rw [Int32.le_iff_toInt_le, Int32.toInt_add, Int32.toInt_add, Int.bmod_eq_of_le (n := (σ.2 13 x.toNatClampNeg).toInt + (σ.2 13 y.toNatClampNeg).toInt) (by omega) (by omega)]
  have e1 : (1 : Int32).toInt = 1 := rfl
  have e0 : (0 : Int32).toInt = 0 := rfl
  rw [e1, e0, Int.bmod_eq_of_le] <;> omega
theorem jn_fl {σ : MS} {nb nw np : Nat} {x y : Int32} (I : IV σ nb nw np) (hx : x.toNatClampNeg < nb) (hy : y.toNatClampNeg < nb) (hc : cJoin σ x y) : (σ.2 10 x.toNatClampNeg).toNatClampNeg ≤ (σ.2 11 y.toNatClampNeg).toNatClampNeg ∧ 1 ≤ σ.2 10 y.toNatClampNeg ∧ σ.2 10 y.toNatClampNeg ≤ 11 := by
  have r := (I.bk _ hx).1
  have s := (I.bk _ hy).1
  have q := hc.1.2.2.2
  obtain ⟨l, hl, el⟩ := vp_in_of (in_c (c := 11) (n := 12) (by decide) r.2.1) (by decide)
  obtain ⟨f, hf, ef⟩ := vp_in_of (in_c (c := 11) (n := 12) (by decide) r.1) (by decide)
  obtain ⟨l2, hl2, el2⟩ := vp_in_of (in_c (c := 11) (n := 12) (by decide) s.2.1) (by decide)
  obtain ⟨f2, hf2, ef2⟩ := vp_in_of (in_c (c := 11) (n := 12) (by decide) s.1) (by decide)
  have r3 := r.2.2.1
  have s3 := s.2.2.1
  rw [el, ef, nI_clamp (by omega), nI_clamp (by omega)] at r3
  rw [el2, ef2, nI_clamp (by omega), nI_clamp (by omega)] at s3
  rw [el, ef2, nI_1] at q
  have q2 := (nI_eq (by omega) (by omega)).mp q
  rw [ef, el2, ef2, nI_clamp (by omega), nI_clamp (by omega)]
  exact ⟨by omega, nI_le (a := 1) (by omega) (by omega), nI_le (b := 11) (by omega) (by decide)⟩
theorem jn_iv {σ : MS} {nb nw np : Nat} {x y : Int32} (I : IV σ nb nw np) (hx : x.toNatClampNeg < nb) (hy : y.toNatClampNeg < nb) (hc : cJoin σ x y) (h60 : ¬ σ.1 8 = 60) : IV (prS (prS (nbS σ nb (σ.2 10 x.toNatClampNeg) (σ.2 11 y.toNatClampNeg) (σ.2 12 x.toNatClampNeg) (σ.2 13 x.toNatClampNeg + σ.2 13 y.toNatClampNeg + 1) (σ.2 14 x.toNatClampNeg + σ.2 14 y.toNatClampNeg - 3 + σ.2 12 x.toNatClampNeg) (σ.2 15 x.toNatClampNeg + σ.2 15 y.toNatClampNeg)) x.toNatClampNeg nb) y.toNatClampNeg nb) (nb + 1) nw np := by
  have hnb : nb < 60 := by rw [I.e8] at h60; exact (n60 I.n8).2.mp h60
  have hne := jn_ne I hx hc
  have I1 := IV_nb (e := (σ.2 14 x.toNatClampNeg + σ.2 14 y.toNatClampNeg - 3 + σ.2 12 x.toNatClampNeg)) (g := (σ.2 15 x.toNatClampNeg + σ.2 15 y.toNatClampNeg)) I hnb (I.bk _ hx).1.1 (I.bk _ hy).1.2.1 (jn_fl I hx hy hc).1 (I.bk _ hx).1.2.2.2 (jn_sum I hx hy hc)
  have I2 := IV_pr (a := x.toNatClampNeg) (n := nb) I1 hx (by omega) (by rw [nbS_o (by omega)]; exact hc.1.1) nbS_n.1
  exact IV_pr (a := y.toNatClampNeg) (n := nb) I2 hy (by omega) (by rw [prS_9, if_neg hne, nbS_o (by omega)]; exact hc.1.2.1) (by rw [prS_9, if_neg (by omega)]; exact nbS_n.1)
theorem SG_sI {κ : AH} {o k : Nat} {v : Int32} (h : SG κ) : SG (sI κ o k v) := h
theorem SG_in {κ : AH} {b : Nat} {x1 x2 x3 x4 x5 x6 x7 : Int32} (h : SG κ) (hb : ∀ i, i < 5 → b ≠ tS i) : SG (inH κ b x1 x2 x3 x4 x5 x6 x7) := SG_sR (SG_sI (SG_sI (SG_sI (SG_sI (SG_sI (SG_sI (SG_sI (SG_sI (SG_sI h))))))))) hb
theorem SG_pr {κ : AH} {a n : Nat} (h : SG κ) : SG (prH κ a n) := SG_sR (SG_sI h) (fun i _ z => tB_S.mp z)
theorem jn_pre {κ : AH} {σ : MS} {nb nw np : Nat} {wb : Nat → Nat} {x y : Int32} (I : IV σ nb nw np) (C : RC κ σ nb nw np wb) (hx : x.toNatClampNeg < nb) (hy : y.toNatClampNeg < nb) (hc : cJoin σ x y) (h60 : ¬ σ.1 8 = 60) (h100 : ¬ σ.1 18 = 100) : nb < 60 ∧ nw < 100 ∧ ¬ y.toNatClampNeg = x.toNatClampNeg ∧ RX (kpH (prH (prH (inH (nO κ (tB nb) 1 0) (tB nb) (nI nb) (σ.2 10 x.toNatClampNeg) (σ.2 11 y.toNatClampNeg) (σ.2 12 x.toNatClampNeg) (σ.2 13 x.toNatClampNeg + σ.2 13 y.toNatClampNeg + 1) (σ.2 14 x.toNatClampNeg + σ.2 14 y.toNatClampNeg - 3 + σ.2 12 x.toNatClampNeg) (σ.2 15 x.toNatClampNeg + σ.2 15 y.toNatClampNeg)) x.toNatClampNeg nb) y.toNatClampNeg nb) nb (tB nb)) (prS (prS (nbS σ nb (σ.2 10 x.toNatClampNeg) (σ.2 11 y.toNatClampNeg) (σ.2 12 x.toNatClampNeg) (σ.2 13 x.toNatClampNeg + σ.2 13 y.toNatClampNeg + 1) (σ.2 14 x.toNatClampNeg + σ.2 14 y.toNatClampNeg - 3 + σ.2 12 x.toNatClampNeg) (σ.2 15 x.toNatClampNeg + σ.2 15 y.toNatClampNeg)) x.toNatClampNeg nb) y.toNatClampNeg nb) (nb + 1) nw np wb (tnsN σ nb) (momN σ nb) (nEn σ nb nw) (σ.1 7) ∧ SG (nO κ (tB nb) 1 0) ∧ gT (nO κ (tB nb) 1 0) (tB nb) = 1 ∧ SG (prH (prH (inH (nO κ (tB nb) 1 0) (tB nb) (nI nb) (σ.2 10 x.toNatClampNeg) (σ.2 11 y.toNatClampNeg) (σ.2 12 x.toNatClampNeg) (σ.2 13 x.toNatClampNeg + σ.2 13 y.toNatClampNeg + 1) (σ.2 14 x.toNatClampNeg + σ.2 14 y.toNatClampNeg - 3 + σ.2 12 x.toNatClampNeg) (σ.2 15 x.toNatClampNeg + σ.2 15 y.toNatClampNeg)) x.toNatClampNeg nb) y.toNatClampNeg nb) := by
  have hnb : nb < 60 := by rw [I.e8] at h60; exact (n60 I.n8).2.mp h60
  have hnw : nw < 100 := by
    have := I.n18
    refine Nat.lt_of_le_of_ne this (fun z => h100 (by rw [I.e18]; exact (nI_eq (b := 100) (by omega) (by decide)).mpr z))
  have hne := jn_ne I hx hc
  have G0 : SG (nO κ (tB nb) 1 0) := SG_nO C.1 (fun i _ z => tB_S.mp z)
  have G1 : SG (inH (nO κ (tB nb) 1 0) (tB nb) (nI nb) (σ.2 10 x.toNatClampNeg) (σ.2 11 y.toNatClampNeg) (σ.2 12 x.toNatClampNeg) (σ.2 13 x.toNatClampNeg + σ.2 13 y.toNatClampNeg + 1) (σ.2 14 x.toNatClampNeg + σ.2 14 y.toNatClampNeg - 3 + σ.2 12 x.toNatClampNeg) (σ.2 15 x.toNatClampNeg + σ.2 15 y.toNatClampNeg)) := SG_in G0 (fun i _ z => tB_S.mp z)
  refine ⟨hnb, hnw, hne, ?_, G0, by rw [gT_nO, if_pos rfl], SG_pr (SG_pr G1)⟩
  rw [kp_pr, kp_pr]
  exact x_pr (x_pr (x_nb (RC_RX C) hnb) (by rw [nbS_o (by omega)]; exact hc.1.1) (by omega)) (by rw [prS_9, if_neg hne, nbS_o (by omega)]; exact hc.1.2.1) (by omega)
theorem prT {κ : AH} {a n t : Nat} (h : gT κ t = 1) : gT (prH κ a n) t = 1 := h
set_option maxRecDepth 20000 in
theorem c_X8_join {w : W0} {κ : AH} {x y z : Int32} {σ : MS} {nb nw np : Nat} {wb : Nat → Nat} (I : IV σ nb nw np) (C : RC κ σ nb nw np wb) : CYV w yX8_join mX8_join [.ref (tS 4), .int x, .int y, .int z] κ (fun v κ' => kJoin σ x y z = 0 ∧ v = some (.int (nI nb)) ∧ κ' = jnH κ σ nb nw x y z) (fun E κ' => κ' = κ ∧ ((kJoin σ x y z = 1 ∧ E = "java/lang/IndexOutOfBoundsException") ∨ (kJoin σ x y z = 2 ∧ E = "java/lang/IllegalStateException"))) := by
  have hG := C.1
  have hN := C.2.1
  have hn := I.n8
  have hnw0 := I.n18
  have hle := nEn_le I
  have hbl := fun x => isB_blk (x := x) I.n8 I.e8
  have h100e := sW_1 I.n18
  rw [← I.e18] at h100e
  refine CYV_of mcX8_join (Nat.le_of_ble_eq_true rfl) (cat1 rfl) (fun θ0 => ?_)
  have K102 : ∀ r : Int32, r = (σ.2 14 x.toNatClampNeg + σ.2 14 y.toNatClampNeg - 3 + σ.2 12 x.toNatClampNeg) → isB nb x → isB nb y → isWdr z → kJoin σ x y z = 0 → Y w mX8_join θ0 κ (fun v κ' => kJoin σ x y z = 0 ∧ v = some (.int (nI nb)) ∧ κ' = jnH κ σ nb nw x y z) (fun E κ' => κ' = κ ∧ ((kJoin σ x y z = 1 ∧ E = "java/lang/IndexOutOfBoundsException") ∨ (kJoin σ x y z = 2 ∧ E = "java/lang/IllegalStateException"))) 0 0 102 [some (.ref (tS 4)), some (.int x), some (.int y), some (.int z), some (.ref (tB x.toNatClampNeg)), some (.ref (tB y.toNatClampNeg)), some (.int r), none] [] κ := by
    intro r hr
    subst hr
    intro hx hy hz hk
    obtain ⟨hcj, h60, h100⟩ := kJ0 hk
    have hxl := isB_cl (nb := nb) (by omega) hx
    have hyl := isB_cl (nb := nb) (by omega) hy
    have nnx : ¬ x.toNatClampNeg = nb := by omega
    have nny : ¬ y.toNatClampNeg = nb := by omega
    obtain ⟨hnb, hnw, hxy, JX, hG0, hb0, hGJ⟩ := jn_pre I C hxl hyl hcj h60 h100
    obtain ⟨u1, u2, u3, u4, u5, u6, u7⟩ := kp_un (nb1 := nb) JX
    have hch : chn (prS (prS (nbS σ nb (σ.2 10 x.toNatClampNeg) (σ.2 11 y.toNatClampNeg) (σ.2 12 x.toNatClampNeg) (σ.2 13 x.toNatClampNeg + σ.2 13 y.toNatClampNeg + 1) (σ.2 14 x.toNatClampNeg + σ.2 14 y.toNatClampNeg - 3 + σ.2 12 x.toNatClampNeg) (σ.2 15 x.toNatClampNeg + σ.2 15 y.toNatClampNeg)) x.toNatClampNeg nb) y.toNatClampNeg nb) (nb + 1) := (jn_iv I hxl hyl hcj h60).ch
    obtain ⟨pA, pA0, pA1, pA2, pA3, pA4, pA5, pA6, pA7, pA8, pA9⟩ := (C.2.2.1.2.1 _ hxl)
    obtain ⟨pB, pB0, pB1, pB2, pB3, pB4, pB5, pB6, pB7, pB8, pB9⟩ := (C.2.2.1.2.1 _ hyl)
    have a0I : ∀ i p, i < nb → gI (nO κ (tB nb) 1 0) (tB i) p = gI κ (tB i) p := fun i p hi => by rw [gI_nO, if_neg (fun z => by have := tB_inj.mp z; omega)]
    have a0T : ∀ i, i < nb → gT (nO κ (tB nb) 1 0) (tB i) = gT κ (tB i) := fun i hi => by rw [gT_nO, if_neg (fun z => by have := tB_inj.mp z; omega)]
    have hA7 : gI (nO κ (tB nb) 1 0) (tS 4) 7 = nI nb := by rw [gI_nO, if_neg (fun z => tS_B.mp z), C.2.1.1.1, I.e8]
    have hTA0 : gT (nO κ (tB nb) 1 0) (tB x.toNatClampNeg) = 1 := (a0T _ hxl).trans pA
    have hTB0 : gT (nO κ (tB nb) 1 0) (tB y.toNatClampNeg) = 1 := (a0T _ hyl).trans pB
    have j2y : gI (prH (prH (inH (nO κ (tB nb) 1 0) (tB nb) (nI nb) (σ.2 10 x.toNatClampNeg) (σ.2 11 y.toNatClampNeg) (σ.2 12 x.toNatClampNeg) (σ.2 13 x.toNatClampNeg + σ.2 13 y.toNatClampNeg + 1) (σ.2 14 x.toNatClampNeg + σ.2 14 y.toNatClampNeg - 3 + σ.2 12 x.toNatClampNeg) (σ.2 15 x.toNatClampNeg + σ.2 15 y.toNatClampNeg)) x.toNatClampNeg nb) y.toNatClampNeg nb) (tB y.toNatClampNeg) 1 = σ.2 10 y.toNatClampNeg := by
      have e9 : gI (prH (prH (inH (nO κ (tB nb) 1 0) (tB nb) (nI nb) (σ.2 10 x.toNatClampNeg) (σ.2 11 y.toNatClampNeg) (σ.2 12 x.toNatClampNeg) (σ.2 13 x.toNatClampNeg + σ.2 13 y.toNatClampNeg + 1) (σ.2 14 x.toNatClampNeg + σ.2 14 y.toNatClampNeg - 3 + σ.2 12 x.toNatClampNeg) (σ.2 15 x.toNatClampNeg + σ.2 15 y.toNatClampNeg)) x.toNatClampNeg nb) y.toNatClampNeg nb) (tB y.toNatClampNeg) 1 = gI (nO κ (tB nb) 1 0) (tB y.toNatClampNeg) 1 := by simp [prH, inH, gI_sI, gI_sR, tB_inj, tB_W, tB_R, tB_P, tB_C, tB_S, tW_inj, tW_B, tW_R, tW_P, tW_C, tW_S, tR_inj, tR_B, tR_W, tR_P, tR_C, tR_S, tP_inj, tP_B, tP_W, tP_R, tP_C, tP_S, tC_inj, tC_B, tC_W, tC_R, tC_P, tC_S, tS_inj, tS_B, tS_W, tS_R, tS_P, tS_C, tM_inj, tM_B, tM_W, tM_R, tM_P, tM_C, tM_S, tB_M, tW_M, tR_M, tP_M, tC_M, tS_M, hxy, nnx, nny]
      rw [e9, a0I _ _ hyl, pB1]
    have hG3 : SG (mwH (prH (prH (inH (nO κ (tB nb) 1 0) (tB nb) (nI nb) (σ.2 10 x.toNatClampNeg) (σ.2 11 y.toNatClampNeg) (σ.2 12 x.toNatClampNeg) (σ.2 13 x.toNatClampNeg + σ.2 13 y.toNatClampNeg + 1) (σ.2 14 x.toNatClampNeg + σ.2 14 y.toNatClampNeg - 3 + σ.2 12 x.toNatClampNeg) (σ.2 15 x.toNatClampNeg + σ.2 15 y.toNatClampNeg)) x.toNatClampNeg nb) y.toNatClampNeg nb) (prS (prS (nbS σ nb (σ.2 10 x.toNatClampNeg) (σ.2 11 y.toNatClampNeg) (σ.2 12 x.toNatClampNeg) (σ.2 13 x.toNatClampNeg + σ.2 13 y.toNatClampNeg + 1) (σ.2 14 x.toNatClampNeg + σ.2 14 y.toNatClampNeg - 3 + σ.2 12 x.toNatClampNeg) (σ.2 15 x.toNatClampNeg + σ.2 15 y.toNatClampNeg)) x.toNatClampNeg nb) y.toNatClampNeg nb) nw nb (σ.2 10 y.toNatClampNeg) z (nEn σ nb nw)) := mw_SG hGJ
    have hb3 : gT (mwH (prH (prH (inH (nO κ (tB nb) 1 0) (tB nb) (nI nb) (σ.2 10 x.toNatClampNeg) (σ.2 11 y.toNatClampNeg) (σ.2 12 x.toNatClampNeg) (σ.2 13 x.toNatClampNeg + σ.2 13 y.toNatClampNeg + 1) (σ.2 14 x.toNatClampNeg + σ.2 14 y.toNatClampNeg - 3 + σ.2 12 x.toNatClampNeg) (σ.2 15 x.toNatClampNeg + σ.2 15 y.toNatClampNeg)) x.toNatClampNeg nb) y.toNatClampNeg nb) (prS (prS (nbS σ nb (σ.2 10 x.toNatClampNeg) (σ.2 11 y.toNatClampNeg) (σ.2 12 x.toNatClampNeg) (σ.2 13 x.toNatClampNeg + σ.2 13 y.toNatClampNeg + 1) (σ.2 14 x.toNatClampNeg + σ.2 14 y.toNatClampNeg - 3 + σ.2 12 x.toNatClampNeg) (σ.2 15 x.toNatClampNeg + σ.2 15 y.toNatClampNeg)) x.toNatClampNeg nb) y.toNatClampNeg nb) nw nb (σ.2 10 y.toNatClampNeg) z (nEn σ nb nw)) (tB nb) = 1 := (mw_D (tB nb) (by simp [tB_inj, tB_W, tB_R, tB_P, tB_C, tB_S, tW_inj, tW_B, tW_R, tW_P, tW_C, tW_S, tR_inj, tR_B, tR_W, tR_P, tR_C, tR_S, tP_inj, tP_B, tP_W, tP_R, tP_C, tP_S, tC_inj, tC_B, tC_W, tC_R, tC_P, tC_S, tS_inj, tS_B, tS_W, tS_R, tS_P, tS_C, tM_inj, tM_B, tM_W, tM_R, tM_P, tM_C, tM_S, tB_M, tW_M, tR_M, tP_M, tC_M, tS_M])).1.trans (u7 nb (by omega)).2
    have h73 : gI (mwH (prH (prH (inH (nO κ (tB nb) 1 0) (tB nb) (nI nb) (σ.2 10 x.toNatClampNeg) (σ.2 11 y.toNatClampNeg) (σ.2 12 x.toNatClampNeg) (σ.2 13 x.toNatClampNeg + σ.2 13 y.toNatClampNeg + 1) (σ.2 14 x.toNatClampNeg + σ.2 14 y.toNatClampNeg - 3 + σ.2 12 x.toNatClampNeg) (σ.2 15 x.toNatClampNeg + σ.2 15 y.toNatClampNeg)) x.toNatClampNeg nb) y.toNatClampNeg nb) (prS (prS (nbS σ nb (σ.2 10 x.toNatClampNeg) (σ.2 11 y.toNatClampNeg) (σ.2 12 x.toNatClampNeg) (σ.2 13 x.toNatClampNeg + σ.2 13 y.toNatClampNeg + 1) (σ.2 14 x.toNatClampNeg + σ.2 14 y.toNatClampNeg - 3 + σ.2 12 x.toNatClampNeg) (σ.2 15 x.toNatClampNeg + σ.2 15 y.toNatClampNeg)) x.toNatClampNeg nb) y.toNatClampNeg nb) nw nb (σ.2 10 y.toNatClampNeg) z (nEn σ nb nw)) (tS 4) 7 = nI nb := by rw [mw_4 (by decide)]; simp [prH, inH, gI_sI, gI_sR, tB_inj, tB_W, tB_R, tB_P, tB_C, tB_S, tW_inj, tW_B, tW_R, tW_P, tW_C, tW_S, tR_inj, tR_B, tR_W, tR_P, tR_C, tR_S, tP_inj, tP_B, tP_W, tP_R, tP_C, tP_S, tC_inj, tC_B, tC_W, tC_R, tC_P, tC_S, tS_inj, tS_B, tS_W, tS_R, tS_P, tS_C, tM_inj, tM_B, tM_W, tM_R, tM_P, tM_C, tM_S, tB_M, tW_M, tR_M, tP_M, tC_M, tS_M]; exact hA7
    have hn3 : gI (mwH (prH (prH (inH (nO κ (tB nb) 1 0) (tB nb) (nI nb) (σ.2 10 x.toNatClampNeg) (σ.2 11 y.toNatClampNeg) (σ.2 12 x.toNatClampNeg) (σ.2 13 x.toNatClampNeg + σ.2 13 y.toNatClampNeg + 1) (σ.2 14 x.toNatClampNeg + σ.2 14 y.toNatClampNeg - 3 + σ.2 12 x.toNatClampNeg) (σ.2 15 x.toNatClampNeg + σ.2 15 y.toNatClampNeg)) x.toNatClampNeg nb) y.toNatClampNeg nb) (prS (prS (nbS σ nb (σ.2 10 x.toNatClampNeg) (σ.2 11 y.toNatClampNeg) (σ.2 12 x.toNatClampNeg) (σ.2 13 x.toNatClampNeg + σ.2 13 y.toNatClampNeg + 1) (σ.2 14 x.toNatClampNeg + σ.2 14 y.toNatClampNeg - 3 + σ.2 12 x.toNatClampNeg) (σ.2 15 x.toNatClampNeg + σ.2 15 y.toNatClampNeg)) x.toNatClampNeg nb) y.toNatClampNeg nb) nw nb (σ.2 10 y.toNatClampNeg) z (nEn σ nb nw)) (tB nb) 0 = nI nb := ((mw_D (tB nb) (by simp [tB_inj, tB_W, tB_R, tB_P, tB_C, tB_S, tW_inj, tW_B, tW_R, tW_P, tW_C, tW_S, tR_inj, tR_B, tR_W, tR_P, tR_C, tR_S, tP_inj, tP_B, tP_W, tP_R, tP_C, tP_S, tC_inj, tC_B, tC_W, tC_R, tC_P, tC_S, tS_inj, tS_B, tS_W, tS_R, tS_P, tS_C, tM_inj, tM_B, tM_W, tM_R, tM_P, tM_C, tM_S, tB_M, tW_M, tR_M, tP_M, tC_M, tS_M])).2.2.1 0).trans (u7 nb (by omega)).1
    refine pX8_join_102 (tB nb) rfl rfl (C.2.2.1.2.2 nb (Nat.le_refl _)) ?_
    refine runY_ok rkX8_join (fun p => Nat.beq p 35 || Nat.beq p 71 || Nat.beq p 102) 200 _ _ _ _ _ _ ?_
    refine And.intro hG0.t4 ?_
    refine And.intro (by first | exact hTA0 | exact (C.2.2.1.2.1 _ (isB_cl (by omega) (by assumption : isB nb x))).1) ?_
    refine And.intro (by first | exact hTB0 | exact (C.2.2.1.2.1 _ (isB_cl (by omega) (by assumption : isB nb y))).1) ?_
    refine And.intro (by first | exact hTA0 | exact (C.2.2.1.2.1 _ (isB_cl (by omega) (by assumption : isB nb x))).1) ?_
    refine pX8_join_129 rfl rfl rfl (show CY w yX8_tonsTogether mX8_tonsTogether [.ref (tB x.toNatClampNeg), .ref (tB y.toNatClampNeg)] (nO κ (tB nb) 1 0) (fun v κ' => v = some (.int (σ.2 13 x.toNatClampNeg + σ.2 13 y.toNatClampNeg + 1)) ∧ κ' = (nO κ (tB nb) 1 0)) from by have h9 := c_X8_tonsTogether (w := w) hTA0 hTB0; rw [a0I _ _ hxl, a0I _ _ hyl, pA4, pB4] at h9; exact h9) (fun v κ1 hq1 ho1 hk1 => ?_)
    obtain ⟨rfl, ehq1⟩ := hq1
    rw [ehq1]
    refine runY_ok rkX8_join (fun p => Nat.beq p 35 || Nat.beq p 71 || Nat.beq p 102) 200 _ _ _ _ _ _ ?_
    refine And.intro (by first | exact hTA0 | exact (C.2.2.1.2.1 _ (isB_cl (by omega) (by assumption : isB nb x))).1) ?_
    refine And.intro (by first | exact hTB0 | exact (C.2.2.1.2.1 _ (isB_cl (by omega) (by assumption : isB nb y))).1) ?_
    refine pX8_join_145 rfl rfl rfl (show CY w yX0_init mX0_init [.ref (tB nb), .int (gI (nO κ (tB nb) 1 0) (tS 4) 7), .int (gI (nO κ (tB nb) 1 0) (tB x.toNatClampNeg) 1), .int (gI (nO κ (tB nb) 1 0) (tB y.toNatClampNeg) 2), .int (gI (nO κ (tB nb) 1 0) (tB x.toNatClampNeg) 3), .int (σ.2 13 x.toNatClampNeg + σ.2 13 y.toNatClampNeg + 1), .int (σ.2 14 x.toNatClampNeg + σ.2 14 y.toNatClampNeg - 3 + σ.2 12 x.toNatClampNeg), .int (gI (nO κ (tB nb) 1 0) (tB x.toNatClampNeg) 5 + gI (nO κ (tB nb) 1 0) (tB y.toNatClampNeg) 5)] (nO κ (tB nb) 1 0) (fun v κ' => v = none ∧ κ' = (inH (nO κ (tB nb) 1 0) (tB nb) (nI nb) (σ.2 10 x.toNatClampNeg) (σ.2 11 y.toNatClampNeg) (σ.2 12 x.toNatClampNeg) (σ.2 13 x.toNatClampNeg + σ.2 13 y.toNatClampNeg + 1) (σ.2 14 x.toNatClampNeg + σ.2 14 y.toNatClampNeg - 3 + σ.2 12 x.toNatClampNeg) (σ.2 15 x.toNatClampNeg + σ.2 15 y.toNatClampNeg))) from by rw [hA7, a0I _ _ hxl, a0I _ _ hyl, a0I _ _ hxl, a0I _ _ hxl, a0I _ _ hyl, pA1, pB2, pA3, pA5, pB5]; exact c_X0_init hb0) (fun v κ1 hq2 ho2 hk2 => ?_)
    obtain ⟨rfl, ehq2⟩ := hq2
    rw [ehq2]
    refine runY_ok rkX8_join (fun p => Nat.beq p 35 || Nat.beq p 71 || Nat.beq p 102) 200 _ _ _ _ _ _ ?_
    refine pX8_join_154 rfl rfl rfl (show CY w yX8_becomePart mX8_becomePart [.ref (tB x.toNatClampNeg), .ref (tB nb)] (inH (nO κ (tB nb) 1 0) (tB nb) (nI nb) (σ.2 10 x.toNatClampNeg) (σ.2 11 y.toNatClampNeg) (σ.2 12 x.toNatClampNeg) (σ.2 13 x.toNatClampNeg + σ.2 13 y.toNatClampNeg + 1) (σ.2 14 x.toNatClampNeg + σ.2 14 y.toNatClampNeg - 3 + σ.2 12 x.toNatClampNeg) (σ.2 15 x.toNatClampNeg + σ.2 15 y.toNatClampNeg)) (fun v κ' => v = none ∧ κ' = (prH (inH (nO κ (tB nb) 1 0) (tB nb) (nI nb) (σ.2 10 x.toNatClampNeg) (σ.2 11 y.toNatClampNeg) (σ.2 12 x.toNatClampNeg) (σ.2 13 x.toNatClampNeg + σ.2 13 y.toNatClampNeg + 1) (σ.2 14 x.toNatClampNeg + σ.2 14 y.toNatClampNeg - 3 + σ.2 12 x.toNatClampNeg) (σ.2 15 x.toNatClampNeg + σ.2 15 y.toNatClampNeg)) x.toNatClampNeg nb)) from c_X8_becomePart hTA0 hb0) (fun v κ1 hq3 ho3 hk3 => ?_)
    obtain ⟨rfl, ehq3⟩ := hq3
    rw [ehq3]
    refine runY_ok rkX8_join (fun p => Nat.beq p 35 || Nat.beq p 71 || Nat.beq p 102) 200 _ _ _ _ _ _ ?_
    refine pX8_join_161 rfl rfl rfl (show CY w yX8_becomePart mX8_becomePart [.ref (tB y.toNatClampNeg), .ref (tB nb)] (prH (inH (nO κ (tB nb) 1 0) (tB nb) (nI nb) (σ.2 10 x.toNatClampNeg) (σ.2 11 y.toNatClampNeg) (σ.2 12 x.toNatClampNeg) (σ.2 13 x.toNatClampNeg + σ.2 13 y.toNatClampNeg + 1) (σ.2 14 x.toNatClampNeg + σ.2 14 y.toNatClampNeg - 3 + σ.2 12 x.toNatClampNeg) (σ.2 15 x.toNatClampNeg + σ.2 15 y.toNatClampNeg)) x.toNatClampNeg nb) (fun v κ' => v = none ∧ κ' = (prH (prH (inH (nO κ (tB nb) 1 0) (tB nb) (nI nb) (σ.2 10 x.toNatClampNeg) (σ.2 11 y.toNatClampNeg) (σ.2 12 x.toNatClampNeg) (σ.2 13 x.toNatClampNeg + σ.2 13 y.toNatClampNeg + 1) (σ.2 14 x.toNatClampNeg + σ.2 14 y.toNatClampNeg - 3 + σ.2 12 x.toNatClampNeg) (σ.2 15 x.toNatClampNeg + σ.2 15 y.toNatClampNeg)) x.toNatClampNeg nb) y.toNatClampNeg nb)) from c_X8_becomePart hTB0 hb0) (fun v κ1 hq4 ho4 hk4 => ?_)
    obtain ⟨rfl, ehq4⟩ := hq4
    rw [ehq4]
    refine runY_ok rkX8_join (fun p => Nat.beq p 35 || Nat.beq p 71 || Nat.beq p 102) 200 _ _ _ _ _ _ ?_
    refine And.intro (by first | exact hTB0 | exact (C.2.2.1.2.1 _ (isB_cl (by omega) (by assumption : isB nb y))).1) ?_
    refine pX8_join_173 rfl rfl rfl hGJ.t4 (show CY w yX8_makeWeld mX8_makeWeld [.ref (tS 4), .ref (tB nb), .int (gI (prH (prH (inH (nO κ (tB nb) 1 0) (tB nb) (nI nb) (σ.2 10 x.toNatClampNeg) (σ.2 11 y.toNatClampNeg) (σ.2 12 x.toNatClampNeg) (σ.2 13 x.toNatClampNeg + σ.2 13 y.toNatClampNeg + 1) (σ.2 14 x.toNatClampNeg + σ.2 14 y.toNatClampNeg - 3 + σ.2 12 x.toNatClampNeg) (σ.2 15 x.toNatClampNeg + σ.2 15 y.toNatClampNeg)) x.toNatClampNeg nb) y.toNatClampNeg nb) (tB y.toNatClampNeg) 1), .int z] (prH (prH (inH (nO κ (tB nb) 1 0) (tB nb) (nI nb) (σ.2 10 x.toNatClampNeg) (σ.2 11 y.toNatClampNeg) (σ.2 12 x.toNatClampNeg) (σ.2 13 x.toNatClampNeg + σ.2 13 y.toNatClampNeg + 1) (σ.2 14 x.toNatClampNeg + σ.2 14 y.toNatClampNeg - 3 + σ.2 12 x.toNatClampNeg) (σ.2 15 x.toNatClampNeg + σ.2 15 y.toNatClampNeg)) x.toNatClampNeg nb) y.toNatClampNeg nb) (fun v κ' => v = none ∧ κ' = (mwH (prH (prH (inH (nO κ (tB nb) 1 0) (tB nb) (nI nb) (σ.2 10 x.toNatClampNeg) (σ.2 11 y.toNatClampNeg) (σ.2 12 x.toNatClampNeg) (σ.2 13 x.toNatClampNeg + σ.2 13 y.toNatClampNeg + 1) (σ.2 14 x.toNatClampNeg + σ.2 14 y.toNatClampNeg - 3 + σ.2 12 x.toNatClampNeg) (σ.2 15 x.toNatClampNeg + σ.2 15 y.toNatClampNeg)) x.toNatClampNeg nb) y.toNatClampNeg nb) (prS (prS (nbS σ nb (σ.2 10 x.toNatClampNeg) (σ.2 11 y.toNatClampNeg) (σ.2 12 x.toNatClampNeg) (σ.2 13 x.toNatClampNeg + σ.2 13 y.toNatClampNeg + 1) (σ.2 14 x.toNatClampNeg + σ.2 14 y.toNatClampNeg - 3 + σ.2 12 x.toNatClampNeg) (σ.2 15 x.toNatClampNeg + σ.2 15 y.toNatClampNeg)) x.toNatClampNeg nb) y.toNatClampNeg nb) nw nb (σ.2 10 y.toNatClampNeg) z (nEn σ nb nw))) from by rw [j2y]; exact c_X8_makeWeld (nb := nb + 1) hGJ u1 hch u2 u3 (by omega) (in_c (c := 3) (n := 4) (by decide) hz) (u4.trans (jn_iv I hxl hyl hcj h60).e18) hnw u5 (by have := nEn_lt I hnw; omega) u6) (fun v κ1 hq5 ho5 hk5 => ?_)
    obtain ⟨rfl, ehq5⟩ := hq5
    rw [ehq5]
    refine runY_ok rkX8_join (fun p => Nat.beq p 35 || Nat.beq p 71 || Nat.beq p 102) 200 _ _ _ _ _ _ ?_
    refine pX8_join_179 rfl rfl rfl hG3.t4 (show CY w yX8_keep mX8_keep [.ref (tS 4), .ref (tB nb)] (mwH (prH (prH (inH (nO κ (tB nb) 1 0) (tB nb) (nI nb) (σ.2 10 x.toNatClampNeg) (σ.2 11 y.toNatClampNeg) (σ.2 12 x.toNatClampNeg) (σ.2 13 x.toNatClampNeg + σ.2 13 y.toNatClampNeg + 1) (σ.2 14 x.toNatClampNeg + σ.2 14 y.toNatClampNeg - 3 + σ.2 12 x.toNatClampNeg) (σ.2 15 x.toNatClampNeg + σ.2 15 y.toNatClampNeg)) x.toNatClampNeg nb) y.toNatClampNeg nb) (prS (prS (nbS σ nb (σ.2 10 x.toNatClampNeg) (σ.2 11 y.toNatClampNeg) (σ.2 12 x.toNatClampNeg) (σ.2 13 x.toNatClampNeg + σ.2 13 y.toNatClampNeg + 1) (σ.2 14 x.toNatClampNeg + σ.2 14 y.toNatClampNeg - 3 + σ.2 12 x.toNatClampNeg) (σ.2 15 x.toNatClampNeg + σ.2 15 y.toNatClampNeg)) x.toNatClampNeg nb) y.toNatClampNeg nb) nw nb (σ.2 10 y.toNatClampNeg) z (nEn σ nb nw)) (fun v κ' => v = some (.int (nI nb)) ∧ κ' = (mwH (prH (prH (nbH κ nb (σ.2 10 x.toNatClampNeg) (σ.2 11 y.toNatClampNeg) (σ.2 12 x.toNatClampNeg) (σ.2 13 x.toNatClampNeg + σ.2 13 y.toNatClampNeg + 1) (σ.2 14 x.toNatClampNeg + σ.2 14 y.toNatClampNeg - 3 + σ.2 12 x.toNatClampNeg) (σ.2 15 x.toNatClampNeg + σ.2 15 y.toNatClampNeg)) x.toNatClampNeg nb) y.toNatClampNeg nb) (prS (prS (nbS σ nb (σ.2 10 x.toNatClampNeg) (σ.2 11 y.toNatClampNeg) (σ.2 12 x.toNatClampNeg) (σ.2 13 x.toNatClampNeg + σ.2 13 y.toNatClampNeg + 1) (σ.2 14 x.toNatClampNeg + σ.2 14 y.toNatClampNeg - 3 + σ.2 12 x.toNatClampNeg) (σ.2 15 x.toNatClampNeg + σ.2 15 y.toNatClampNeg)) x.toNatClampNeg nb) y.toNatClampNeg nb) nw nb (σ.2 10 y.toNatClampNeg) z (nEn σ nb nw))) from by have h9 := c_X8_keep (w := w) hG3 hb3 hnb h73; rw [hn3, kp_mw, kp_pr, kp_pr] at h9; exact h9) (fun v κ1 hq6 ho6 hk6 => ?_)
    obtain ⟨rfl, ehq6⟩ := hq6
    rw [ehq6]
    refine runY_ok rkX8_join (fun p => Nat.beq p 35 || Nat.beq p 71 || Nat.beq p 102) 200 _ _ _ _ _ _ ?_
    refine And.intro ⟨Nat.le_of_ble_eq_true rfl, Nat.le_of_ble_eq_true rfl⟩ ?_
    exact ⟨hk, rfl, rfl⟩
  have K71 : kJoin σ x y z = 2 → ∀ x4 x5, Y w mX8_join θ0 κ (fun v κ' => kJoin σ x y z = 0 ∧ v = some (.int (nI nb)) ∧ κ' = jnH κ σ nb nw x y z) (fun E κ' => κ' = κ ∧ ((kJoin σ x y z = 1 ∧ E = "java/lang/IndexOutOfBoundsException") ∨ (kJoin σ x y z = 2 ∧ E = "java/lang/IllegalStateException"))) 0 0 71 [some (.ref (tS 4)), some (.int x), some (.int y), some (.int z), x4, x5, none, none] [] κ := by
    intro hk x4 x5
    refine yX8_join_71z (st := []) rfl rfl ?_
    exact ⟨rfl, Or.inr ⟨hk, rfl⟩⟩
  have K35 : kJoin σ x y z = 1 → ∀ x4 x5, Y w mX8_join θ0 κ (fun v κ' => kJoin σ x y z = 0 ∧ v = some (.int (nI nb)) ∧ κ' = jnH κ σ nb nw x y z) (fun E κ' => κ' = κ ∧ ((kJoin σ x y z = 1 ∧ E = "java/lang/IndexOutOfBoundsException") ∨ (kJoin σ x y z = 2 ∧ E = "java/lang/IllegalStateException"))) 0 0 35 [some (.ref (tS 4)), some (.int x), some (.int y), some (.int z), x4, x5, none, none] [] κ := by
    intro hk x4 x5
    refine yX8_join_35z (st := []) rfl rfl ?_
    exact ⟨rfl, Or.inl ⟨hk, rfl⟩⟩
  refine runY_ok rkX8_join (fun p => Nat.beq p 35 || Nat.beq p 71 || Nat.beq p 102) 200 _ _ _ _ _ _ ?_
  refine pX8_join_2 rfl rfl rfl hG.t4 (c_X8_blockOf I.n8 hG C.2.2.1.1) (fun v κ1 hq7 ho7 hk7 => ?_)
  by_cases hs7 : isB nb x
  · skip
    rw [blO_y hs7] at hq7
    obtain ⟨rfl, ehq7⟩ := hq7
    rw [ehq7]
    refine runY_ok rkX8_join (fun p => Nat.beq p 35 || Nat.beq p 71 || Nat.beq p 102) 200 _ _ _ _ _ _ ?_
    refine pX8_join_9 rfl rfl rfl hG.t4 (c_X8_blockOf I.n8 hG C.2.2.1.1) (fun v κ1 hq8 ho8 hk8 => ?_)
    by_cases hs8 : isB nb y
    · skip
      rw [blO_y hs8] at hq8
      obtain ⟨rfl, ehq8⟩ := hq8
      rw [ehq8]
      refine runY_ok rkX8_join (fun p => Nat.beq p 35 || Nat.beq p 71 || Nat.beq p 102) 200 _ _ _ _ _ _ ?_
      refine And.intro hG.t4 ⟨some (tS 3), hG.r45, ?_⟩
      refine pX8_join_29 rfl rfl rfl hG.t3 (show CY w yX7_has mX7_has [.ref (tS 3), .int z] κ (fun v κ' => v = some (.int (if isWdr z then 1 else 0)) ∧ κ' = κ) from by have h9 := c_X7_has (w := w) (y := z) hG.t3 hG.t9 hG.n9 hG.r30; simp only [has4_w] at h9; exact h9) (fun v κ1 hq9 ho9 hk9 => ?_)
      obtain ⟨rfl, ehq9⟩ := hq9
      rw [ehq9]
      refine runY_ok rkX8_join (fun p => Nat.beq p 35 || Nat.beq p 71 || Nat.beq p 102) 200 _ _ _ _ _ _ ?_
      refine And.intro (fun c10 => ?_) (fun c10 => ?_)
      · try simp only [b01_eq, b01_ne, Classical.not_not] at c10
        refine pX8_join_50 rfl rfl rfl hG.t4 (c_X8_canJoin hG hN (C.2.2.1.2.1 _ (isB_cl (by omega) (by assumption : isB nb x))) (C.2.2.1.2.1 _ (isB_cl (by omega) (by assumption : isB nb y)))) (fun v κ1 hq11 ho11 hk11 => ?_)
        obtain ⟨rfl, ehq11⟩ := hq11
        rw [ehq11]
        refine runY_ok rkX8_join (fun p => Nat.beq p 35 || Nat.beq p 71 || Nat.beq p 102) 200 _ _ _ _ _ _ ?_
        refine And.intro (fun c12 => ?_) (fun c12 => ?_)
        · try simp only [b01_eq, b01_ne, Classical.not_not] at c12
          exact K71 (by unfold kJoin; rw [if_pos ⟨(hbl x).mpr (by assumption), (hbl y).mpr (by assumption), by grind⟩]; grind) _ _
        · try simp only [b01_eq, b01_ne, Classical.not_not] at c12
          refine pX8_join_57 rfl rfl rfl hG.t4 (c_X8_hasSpaceForBlock I.n8 I.e8 hG hN) (fun v κ1 hq13 ho13 hk13 => ?_)
          obtain ⟨rfl, ehq13⟩ := hq13
          rw [ehq13]
          refine runY_ok rkX8_join (fun p => Nat.beq p 35 || Nat.beq p 71 || Nat.beq p 102) 200 _ _ _ _ _ _ ?_
          refine And.intro (fun c14 => ?_) (fun c14 => ?_)
          · try simp only [b01_eq, b01_ne, Classical.not_not] at c14
            exact K71 (by unfold kJoin; rw [if_pos ⟨(hbl x).mpr (by assumption), (hbl y).mpr (by assumption), by grind⟩]; grind) _ _
          · try simp only [b01_eq, b01_ne, Classical.not_not] at c14
            refine pX8_join_65 rfl rfl rfl hG.t4 (c_X8_hasSpaceForWelds (x := 1) hG hN) (fun v κ1 hq15 ho15 hk15 => ?_)
            obtain ⟨rfl, ehq15⟩ := hq15
            rw [ehq15]
            refine runY_ok rkX8_join (fun p => Nat.beq p 35 || Nat.beq p 71 || Nat.beq p 102) 200 _ _ _ _ _ _ ?_
            refine And.intro (fun c16 => ?_) (fun c16 => ?_)
            · try simp only [b01_eq, b01_ne, Classical.not_not] at c16
              refine And.intro (by first | exact hTA0 | exact (C.2.2.1.2.1 _ (isB_cl (by omega) (by assumption : isB nb x))).1) ?_
              refine And.intro (by first | exact hTB0 | exact (C.2.2.1.2.1 _ (isB_cl (by omega) (by assumption : isB nb y))).1) ?_
              refine And.intro (by first | exact hTA0 | exact (C.2.2.1.2.1 _ (isB_cl (by omega) (by assumption : isB nb x))).1) ?_
              exact K102 _ (by rw [(C.2.2.1.2.1 _ (isB_cl (by omega) (by assumption : isB nb x))).2.2.2.2.2.2.2.1, (C.2.2.1.2.1 _ (isB_cl (by omega) (by assumption : isB nb y))).2.2.2.2.2.2.2.1, (C.2.2.1.2.1 _ (isB_cl (by omega) (by assumption : isB nb x))).2.2.2.2.1]; grind) (by assumption) (by assumption) (by grind) (by unfold kJoin; rw [if_pos ⟨(hbl x).mpr (by assumption), (hbl y).mpr (by assumption), by grind⟩]; grind)
            · try simp only [b01_eq, b01_ne, Classical.not_not] at c16
              exact K71 (by unfold kJoin; rw [if_pos ⟨(hbl x).mpr (by assumption), (hbl y).mpr (by assumption), by grind⟩]; grind) _ _
      · try simp only [b01_eq, b01_ne, Classical.not_not] at c10
        exact K35 (by unfold kJoin; rw [if_neg]; grind) _ _
    · skip
      rw [blO_n hs8] at hq8
      obtain ⟨rfl, ehq8⟩ := hq8
      rw [ehq8]
      refine runY_ok rkX8_join (fun p => Nat.beq p 35 || Nat.beq p 71 || Nat.beq p 102) 200 _ _ _ _ _ _ ?_
      exact K35 (by unfold kJoin; rw [if_neg]; grind) _ _
  · skip
    rw [blO_n hs7] at hq7
    obtain ⟨rfl, ehq7⟩ := hq7
    rw [ehq7]
    refine runY_ok rkX8_join (fun p => Nat.beq p 35 || Nat.beq p 71 || Nat.beq p 102) 200 _ _ _ _ _ _ ?_
    refine pX8_join_9 rfl rfl rfl hG.t4 (c_X8_blockOf I.n8 hG C.2.2.1.1) (fun v κ1 hq17 ho17 hk17 => ?_)
    by_cases hs17 : isB nb y
    · skip
      rw [blO_y hs17] at hq17
      obtain ⟨rfl, ehq17⟩ := hq17
      rw [ehq17]
      refine runY_ok rkX8_join (fun p => Nat.beq p 35 || Nat.beq p 71 || Nat.beq p 102) 200 _ _ _ _ _ _ ?_
      exact K35 (by unfold kJoin; rw [if_neg]; grind) _ _
    · skip
      rw [blO_n hs17] at hq17
      obtain ⟨rfl, ehq17⟩ := hq17
      rw [ehq17]
      refine runY_ok rkX8_join (fun p => Nat.beq p 35 || Nat.beq p 71 || Nat.beq p 102) 200 _ _ _ _ _ _ ?_
      exact K35 (by unfold kJoin; rw [if_neg]; grind) _ _


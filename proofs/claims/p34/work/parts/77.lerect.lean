
/-! THE LAW'S erects -/
def QD (l : LSt) (σ : MS) (nb nw np : Nat) : Prop := cB l σ nb ∧ cW l σ nb nw ∧ cR l σ ∧ cG l σ nb nw np ∧ σ.1 18 = nI nw
/-- the length of what is LOOSE -/
def cLn (σ : MS) (nb : Nat) : Prop := ∀ i, i < nb → σ.2 9 i = 0 → ∃ n f g : Nat, σ.2 14 i = nI n ∧ σ.2 10 i = nI f ∧ σ.2 11 i = nI g ∧ f ≤ g ∧ g ≤ 11 ∧ 997 * (g + 1 - f) + 3 ≤ n ∧ n ≤ 1060 * (g + 1 - f)
def Cp (l : LSt) (σ : MS) (nb nw np : Nat) : Prop := (nb ≤ 40 ∧ nw ≤ 60 ∧ np ≤ 10 ∧ σ.1 6 = 0) ∧ QD l σ nb nw np ∧ cLn σ nb
theorem cLn.cong {σ σ' : MS} {nb : Nat} (h : cLn σ nb) (hs : ∀ j, (j = 9 ∨ j = 10 ∨ j = 11 ∨ j = 14) → ∀ i, i < nb → σ'.2 j i = σ.2 j i) : cLn σ' nb := by
  intro i hi h9
  rw [hs 9 (by decide) i hi] at h9
  obtain ⟨n, f, g, h1, h2, h3, h4, h5, h6, h7⟩ := h i hi h9
  exact ⟨n, f, g, by rw [hs 14 (by decide) i hi]; exact h1, by rw [hs 10 (by decide) i hi]; exact h2, by rw [hs 11 (by decide) i hi]; exact h3, h4, h5, h6, h7⟩
def lE (l : LSt) (i : Nat) (x b : Int32) : LSt := lu (lu (lu l 2 i (l 2 i - x)) 4 i b) 0 i (l 0 i + 2048)
theorem lE_o {l : LSt} {i j k : Nat} {x b : Int32} (h : ¬ k = i ∨ (j ≠ 0 ∧ j ≠ 2 ∧ j ≠ 4)) : lE l i x b j k = l j k := by
  unfold lE
  rw [lu_o (fun z => h.elim (fun q => q z.2) (fun q => q.1 z.1)), lu_o (fun z => h.elim (fun q => q z.2) (fun q => q.2.2 z.1)), lu_o (fun z => h.elim (fun q => q z.2) (fun q => q.2.1 z.1))]
theorem ebB_9 {σ : MS} {i : Nat} {a c : Int32} : (erB σ i a c).2 9 i = 2 := if_pos ⟨rfl, rfl⟩
theorem ebB_16 {σ : MS} {i : Nat} {a c : Int32} : (erB σ i a c).2 16 i = begE (erA σ i a c) i a c := by
  unfold erB
  rw [upA_o (fun z => absurd z.1 (by decide)), upA_s]
theorem ebB_14 {σ : MS} {i j : Nat} {a c : Int32} : (erB σ i a c).2 14 j = (erA σ i a c).2 14 j := by
  unfold erB
  rw [upA_o (fun z => absurd z.1 (by decide)), upA_o (fun z => absurd z.1 (by decide))]
theorem ebA_o {σ : MS} {i j k : Nat} {a c : Int32} (h : ¬ k = i) : (erA σ i a c).2 j k = σ.2 j k := by
  unfold erA
  split
  · exact upA_o (fun z => h z.2)
  · rfl
theorem ebB_o {σ : MS} {i j k : Nat} {a c : Int32} (h : ¬ k = i) : (erB σ i a c).2 j k = σ.2 j k := by
  show (if j = 9 ∧ k = i then _ else if j = 16 ∧ k = i then _ else _) = _
  rw [if_neg (fun z => h z.2), if_neg (fun z => h z.2), ebA_o h]
theorem S1 {l : LSt} {σ : MS} {nb nw np i : Nat} {x b a c : Int32} (h : QD l σ nb nw np) (hi : i < nb) (h9 : σ.2 9 i = 0) (h14 : (erA σ i a c).2 14 i = σ.2 14 i - x) (hb : b = begE (erA σ i a c) i a c) : QD (lE l i x b) (erB σ i a c) nb nw np := by
  obtain ⟨B, W, R, G, e18⟩ := h
  refine ⟨fun k hk => ?_, W.cong (fun k _ => lE_o (Or.inr (by decide))) (fun j h1 h2 k _ => by rw [erB_row (by omega) (by omega) (by omega)]) (Nat.le_refl _), R.cong (fun j h1 h2 c _ => lE_o (Or.inr (by omega))) (fun j h1 h2 c _ => by rw [erB_row (by omega) (by omega) (by omega)]), G.cong (fun k => lE_o (Or.inr (by decide))) (fun j _ => by rw [erB_num]) (fun y _ => by rw [erB_row (by decide) (by decide) (by decide)]), by rw [erB_num]; exact e18⟩
  by_cases e : k = i
  · subst e
    obtain ⟨⟨f, g, e, s, u, h1, h2, h3, h4, h5, h6, h7, h8, h9', h10, h11, h12, h13⟩, q1, q2, q3, q4, q5⟩ := B k hk
    have s0 : s = 0 := (nI_eq (b := 0) (by omega) (by decide)).mp (h11.symm.trans h9)
    subst s0
    have r : ∀ j, j ≠ 14 → j ≠ 16 → j ≠ 9 → (erB σ k a c).2 j k = σ.2 j k := fun j h1 h2 h3 => by rw [erB_row h1 h2 h3]
    refine ⟨⟨f, g, e, 2, u, h1, h2, h3, by decide, h5, h6, h7, ?_, ?_, ?_, ebB_9, ?_, ?_⟩, ?_, ?_, ?_, fun _ => ?_, ?_⟩
    · rw [r _ (by decide) (by decide) (by decide)]; exact h8
    · rw [r _ (by decide) (by decide) (by decide)]; exact h9'
    · rw [r _ (by decide) (by decide) (by decide)]; exact h10
    · rw [r _ (by decide) (by decide) (by decide)]; exact h12
    · unfold lE
      rw [lu_s, h13, show (2048 : Int32) = nI 2048 from rfl, nI_add]
      congr 1 <;> (unfold eA; omega)
    · rw [lE_o (Or.inr (by decide)), r _ (by decide) (by decide) (by decide)]; exact q1
    · unfold lE
      rw [lu_o (fun z => absurd z.1 (by decide)), lu_o (fun z => absurd z.1 (by decide)), lu_s, ebB_14, h14, q2]
    · rw [lE_o (Or.inr (by decide)), r _ (by decide) (by decide) (by decide)]; exact q3
    · unfold lE
      rw [lu_o (fun z => absurd z.1 (by decide)), lu_s, ebB_16, hb]
    · rw [lE_o (Or.inr (by decide)), r _ (by decide) (by decide) (by decide)]; exact q5
  · exact cB.cong (l := l) (σ := σ) (nb := nb) (l' := fun j n => if n = k then lE l i x b j n else l j n) (σ' := (σ.1, fun j n => if n = k then (erB σ i a c).2 j n else σ.2 j n)) B (fun j _ n _ => by
      show (if n = k then lE l i x b j n else l j n) = _
      split
      · rename_i z; rw [lE_o (Or.inl (by rw [z]; exact e))]
      · rfl) (fun j _ _ n _ => by
      show (if n = k then (erB σ i a c).2 j n else σ.2 j n) = _
      split
      · rename_i z; rw [ebB_o (by rw [z]; exact e)]
      · rfl) k hk |> fun q => by
        obtain ⟨⟨f, g, e, s, u, h1, h2, h3, h4, h5, h6, h7, h8, h9', h10, h11, h12, h13⟩, q1, q2, q3, q4, q5⟩ := q
        have L : ∀ j, (if k = k then lE l i x b j k else l j k) = lE l i x b j k := fun j => if_pos rfl
        have S : ∀ j, (if k = k then (erB σ i a c).2 j k else σ.2 j k) = (erB σ i a c).2 j k := fun j => if_pos rfl
        dsimp only at h8 h9' h10 h11 h12 h13 q1 q2 q3 q4 q5
        rw [S] at h8 h9' h10 h11 h12
        rw [L] at h13
        rw [L, S] at q1 q2 q3 q5
        rw [S, L, S] at q4
        exact ⟨⟨f, g, e, s, u, h1, h2, h3, h4, h5, h6, h7, h8, h9', h10, h11, h12, h13⟩, q1, q2, q3, q4, q5⟩
def flF (l : LSt) (x : Int32) (c : Nat) : Nat → LSt
  | 0 => l
  | n + 1 => lu (lu (flF l x c n) 7 (c + n) x) 9 9 (flF l x c n 9 9 + 100)
theorem flF_o {l : LSt} {x : Int32} {c j k : Nat} (h1 : j ≠ 7) (h2 : ¬ (j = 9 ∧ k = 9)) : ∀ n, flF l x c n j k = l j k
  | 0 => rfl
  | n + 1 => by
    show lu (lu (flF l x c n) 7 (c + n) x) 9 9 (flF l x c n 9 9 + 100) j k = _
    rw [lu_o h2, lu_o (fun z => h1 z.1), flF_o h1 h2 n]
theorem flF_7 {l : LSt} {x : Int32} {c k : Nat} : ∀ n, flF l x c n 7 k = if c ≤ k ∧ k < c + n then x else l 7 k
  | 0 => by rw [if_neg (by omega)]; rfl
  | n + 1 => by
    show lu (lu (flF l x c n) 7 (c + n) x) 9 9 (flF l x c n 9 9 + 100) 7 k = _
    rw [lu_o (fun z => absurd z.1 (by decide))]
    by_cases e : k = c + n
    · rw [e, lu_s, if_pos (by omega)]
    · rw [lu_o (fun z => e z.2), flF_7 n]
      by_cases e2 : c ≤ k ∧ k < c + n
      · rw [if_pos e2, if_pos (by omega)]
      · rw [if_neg e2, if_neg (by omega)]
theorem flF_99 {l : LSt} {σ : MS} {x v b : Int32} {c lo : Nat} (h : l 9 9 = σ.1 7) : ∀ n, flF l x c n 9 9 = (flS σ v b lo n).1 7
  | 0 => h
  | n + 1 => by
    show lu (lu (flF l x c n) 7 (c + n) x) 9 9 (flF l x c n 9 9 + 100) 9 9 = (flS σ v b lo n).1 7 + 100
    rw [lu_s, flF_99 h n]
theorem S2 {l : LSt} {σ : MS} {nb nw np f e n : Nat} {x : Int32} (h : QD l σ nb nw np) (hf : f + n ≤ 12) (he : e ≤ 2) : QD (flF l x (12 * e + f) n) (flS σ (nI e) x f n) nb nw np := by
  obtain ⟨B, W, R, G, e18⟩ := h
  refine ⟨B.cong (fun j hj i _ => flF_o (by omega) (by omega) n) (fun j h1 h2 i _ => by rw [flS_row (by omega)]), W.cong (fun k _ => flF_o (by decide) (by omega) n) (fun j h1 h2 k _ => by rw [flS_row (by omega)]) (Nat.le_refl _), fun c hc => ⟨?_, ?_⟩, ?_, by rw [flS_num (by decide)]; exact e18⟩
  · rw [flF_7, flS_25 (by omega) n (by omega), (R c hc).1]
  · exact (R c hc).2.cong (flF_o (by decide) (by omega) n) (fun j h1 h2 => by rw [flS_row (by omega)])
  · obtain ⟨a0, a1, a2, a3, a4, a5, a9, a10, a11, a12⟩ := G
    have L : ∀ k, k ≠ 9 → flF l x (12 * e + f) n 9 k = l 9 k := fun k hk => flF_o (by decide) (fun z => hk z.2) n
    have N : ∀ k, k ≠ 7 → (flS σ (nI e) x f n).1 k = σ.1 k := fun k hk => flS_num hk n
    refine ⟨?_, ?_, ?_, ?_, ?_, fun z hz => ?_, flF_99 a9 n, ?_, ?_, ?_⟩
    · rw [L _ (by decide), N _ (by decide)]; exact a0
    · rw [L _ (by decide), N _ (by decide)]; exact a1
    · rw [L _ (by decide), N _ (by decide)]; exact a2
    · rw [L _ (by decide), N _ (by decide)]; exact a3
    · rw [L _ (by decide), N _ (by decide)]; exact a4
    · rw [L _ (by omega), flS_row (by decide)]; exact a5 z hz
    · rw [L _ (by decide)]; exact a10
    · rw [L _ (by decide)]; exact a11
    · rw [L _ (by decide)]; exact a12
theorem sMak_18 {σ : MS} {b f v : Int32} {n y : Nat} (e : σ.1 18 = nI n) (hn : n < 2 ^ 31) : (sMak σ b f v y).1 18 = nI (n + 1) := by
  rw [sMak_0 e hn, sDrw_num (by decide)]
  show σ.1 18 + 1 = _
  rw [e, nI_1]
theorem S3 {l : LSt} {σ : MS} {nb nw np f e y : Nat} (h : QD l σ nb nw np) (hb : nb ≤ 40) (hnw : nw < 60) (hy : y < 4) (hf1 : 1 ≤ f) (hf : f ≤ 11) (he : e ≤ 2) : QD (spF (wlF l nw (-1) (nI f) (nI e) y) (12 * e + f)) (sSpo (sMak σ (-1) (nI f) (nI e) y) (nI f) (nI e)) nb (nw + 1) np := by
  obtain ⟨B, W, R, G, e18⟩ := h
  have w := wl_W (B := nb) (bk := 0) (by omega) W hnw e18 G.2.2.2.2.1 (G.2.2.2.2.2.1 y hy) hy hf1 hf he (Nat.zero_le _)
  have g := wl_G (bk := 0) (f := f) (e := e) (y := y) G hnw e18
  rw [show nI 0 - 1 = (-1 : Int32) by decide] at w g
  have r : cR (wlF l nw (-1) (nI f) (nI e) y) (sMak σ (-1) (nI f) (nI e) y) := R.cong (fun j h1 h2 c _ => wlF_o (by omega) (by omega)) (fun j h1 h2 c _ => by rw [sMak_row (Or.inr (by omega))])
  refine ⟨B.cong (fun j hj i _ => by rw [spF_o (by omega), wlF_o (by omega) (by omega)]) (fun j h1 h2 i _ => by rw [sSpo_row (by omega), sMak_row (Or.inl (by omega))]), w.cong (fun k _ => spF_o (by decide)) (fun j h1 h2 k _ => by rw [sSpo_row (by omega)]) (Nat.le_refl _), spF_R r hf1 hf he, g.cong (fun k => spF_o (by decide)) (fun j _ => rfl) (fun z _ => by rw [sSpo_row (by decide)]), sMak_18 (b := -1) (f := nI f) (v := nI e) (y := y) e18 (by omega)⟩
theorem cut_ok {L D : Int32} (h0 : 0 ≤ L) (h1 : L ≤ 100000) (h2 : ¬ 60 < L - D) (h3 : ¬ L - D < -12) : (L ≤ D ↔ ¬ 0 < L - D) := by
  have e : D = L - (L - D) := by grind
  generalize L - D = d at *
  have a1 := Int32.le_iff_toInt_le.mp h0
  have a2 := Int32.le_iff_toInt_le.mp h1
  have a3 := Int32.le_iff_toInt_le.mp (Int32.not_lt.mp h2)
  have a4 := Int32.le_iff_toInt_le.mp (Int32.not_lt.mp h3)
  rw [show (0 : Int32).toInt = 0 from rfl] at a1
  rw [show (100000 : Int32).toInt = 100000 from rfl] at a2
  rw [show (60 : Int32).toInt = 60 from rfl] at a3
  rw [show (-12 : Int32).toInt = -12 from rfl] at a4
  rw [e, Int32.le_iff_toInt_le, Int32.lt_iff_toInt_lt, Int32.toInt_sub, show (0 : Int32).toInt = 0 from rfl, Int.bmod_eq_of_le (by omega) (by omega)]
  omega
set_option maxRecDepth 20000 in
theorem c_L_erects {w : W0} {κ : AH} {p : Nat} {l : LSt} {x z : Int32} {σ : MS} {i y nb nw np : Nat} (A : AK κ) (I : IV σ nb nw np) (C : Cp l σ nb nw np) (hr : rsn σ i = 0) (hx : x = nI i) (hz : z = nI y) (hi : i < nb) (hy : y < 4) (hnw : nw ≤ 57) : CY w yL_erects mL_erects [.ref (tM 0), .ref (tM 2), .ref (tM 4), .ref (tM 6), .ref (tM 7), .ref (tM 8), .ref (tM 9), .int x, .int z] (PL κ p l) (fun v κ' => v = some (.int (cutE σ i (nbA σ i) (nbB σ i))) ∧ ∃ l' nw', κ' = PL κ p l' ∧ nw ≤ nw' ∧ nw' ≤ nw + 2 ∧ QD l' (sEr σ i (nI i) (nbA σ i) (nbB σ i) y) nb nw' np) := by
  refine CY_of mcL_erects (Nat.le_of_ble_eq_true rfl) (cat1 rfl) (fun θ0 => ?_)
  obtain ⟨⟨hb40, hw60, hp10, h6⟩, D, hln⟩ := C
  obtain ⟨CB, CW, CR, CG, e18⟩ := id D
  have h60 : nb ≤ 60 := I.n8
  obtain ⟨f, q, e, s, u, hf, hq, he, hs, hfq, hu1, hu2, e10, e11, e12, e9, e15, ea⟩ := (CB i hi).1
  obtain ⟨b1, b2, b3, b4, b5⟩ := (CB i hi).2
  have FJ : ∀ (y : Int32) (d : Nat), d ≤ 2 → bAt σ y (nI d) = -1 ∨ ∃ j, j < nb ∧ bAt σ y (nI d) = nI j ∧ σ.2 9 j = 2 := fun y d hd => by
    by_cases h : bAt σ y (nI d) = -1
    · exact Or.inl h
    · exact Or.inr ((fl_ge h60 I.fx hd).2 h)
  have na : nbA σ i = bAt σ (nI f - 1) (nI e) := by unfold nbA; rw [e10, e12]
  have nc : nbB σ i = bAt σ (nI q + 1) (nI e) := by unfold nbB; rw [e11, e12]
  have hr1 : σ.2 9 i = 0 ∧ rsn2 σ i = 0 := by
    unfold rsn at hr
    split at hr
    · exact absurd hr (by decide)
    · rename_i z1
      split at hr
      · exact absurd hr (by decide)
      · split at hr
        · exact absurd hr (by decide)
        · exact ⟨Classical.byContradiction fun z => z1 (Or.inl z), hr⟩
  obtain ⟨h9, hr2⟩ := hr1
  have s0 : s = 0 := (nI_eq (b := 0) (by omega) (by decide)).mp (e9.symm.trans h9)
  subst s0
  obtain ⟨ln, f2, q2, hl1, hl2, hl3, hl4, hl5, hl6, hl7⟩ := hln i hi h9
  have ef2 : f2 = f := (nI_eq (by omega) (by omega)).mp (hl2.symm.trans e10)
  have eq2 : q2 = q := (nI_eq (by omega) (by omega)).mp (hl3.symm.trans e11)
  subst ef2
  subst eq2
  have hlb : ln ≤ 100000 := by omega
  have hmis : ¬ nbA σ i = -1 → ¬ nbB σ i = -1 → ¬ 60 < σ.2 14 i - spc σ (nbA σ i) (nbB σ i) ∧ ¬ σ.2 14 i - spc σ (nbA σ i) (nbB σ i) < -12 := fun n1 n2 => by
    unfold rsn2 at hr2
    split at hr2
    · exact absurd hr2 (by decide)
    · split at hr2
      · exact absurd hr2 (by decide)
      · split at hr2
        · rename_i z; exact absurd z (fun z => z.elim n1 n2)
        · split at hr2
          · exact absurd hr2 (by decide)
          · rename_i z; exact ⟨fun h => z (Or.inl h), fun h => z (Or.inr h)⟩
  have hfl : erC σ i (nI i) (nbA σ i) (nbB σ i) = flS (erB σ i (nbA σ i) (nbB σ i)) (nI e) (nI i) f2 (q2 + 1 - f2)   := by unfold erC; rw [e10, e11, e12, nI_clamp (by omega), nI_clamp (by omega)]
  have hi40 : i < 40 := by omega
  have Pnn : nbA σ i = -1 → nbB σ i = -1 → Y w mL_erects θ0 (PL κ p l) (fun v κ' => v = some (.int (cutE σ i (nbA σ i) (nbB σ i))) ∧ ∃ l' nw', κ' = PL κ p l' ∧ nw ≤ nw' ∧ nw' ≤ nw + 2 ∧ QD l' (sEr σ i (nI i) (nbA σ i) (nbB σ i) y) nb nw' np) (fun _ _ => False) 0 0 59 [some (.ref (tM 0)), some (.ref (tM 2)), some (.ref (tM 4)), some (.ref (tM 6)), some (.ref (tM 7)), some (.ref (tM 8)), some (.ref (tM 9)), some (.int x), some (.int z), some (.int (nI f2)), some (.int (nI q2)), some (.int (nI e)), some (.int (-1)), some (.int (-1)), none, none, none] [] (PL κ p l) := by
    intro eja ejc
    have K222 : ∀ x14 x15 bg k : Int32, x15 = cutE σ i (nbA σ i) (nbB σ i) → (erA σ i (nbA σ i) (nbB σ i)).2 14 i = σ.2 14 i - x15 → bg = begE (erA σ i (nbA σ i) (nbB σ i)) i (nbA σ i) (nbB σ i) → Y w mL_erects θ0 (PL κ p l) (fun v κ' => v = some (.int (cutE σ i (nbA σ i) (nbB σ i))) ∧ ∃ l' nw', κ' = PL κ p l' ∧ nw ≤ nw' ∧ nw' ≤ nw + 2 ∧ QD l' (sEr σ i (nI i) (nbA σ i) (nbB σ i) y) nb nw' np) (fun _ _ => False) 0 0 222 [some (.ref (tM 0)), some (.ref (tM 2)), some (.ref (tM 4)), some (.ref (tM 6)), some (.ref (tM 7)), some (.ref (tM 8)), some (.ref (tM 9)), some (.int x), some (.int z), some (.int (nI f2)), some (.int (nI q2)), some (.int (nI e)), some (.int (-1)), some (.int (-1)), some (.int x14), some (.int x15), some (.int k)] [] (PL κ p (flF (lE l i x15 bg) x (12 * e + f2) (q2 + 1 - f2))) := by
      intro x14 x15 bg k hx15 h14 hbg
      refine runL_go (κ := κ) (p := p) rkL_erects noCut 300 rfl ?_
      refine And.intro (fun c224 => ?_) (fun c224 => False.elim (by first | exact c224 (by decide) | exact absurd (by decide) c224 | exact absurd c224 (by decide)))
      refine And.intro (fun c251 => ?_) (fun c251 => False.elim (by first | exact c251 (by decide) | exact absurd (by decide) c251 | exact absurd c251 (by decide)))
      refine And.intro ⟨Nat.le_of_ble_eq_true rfl, Nat.le_of_ble_eq_true rfl⟩ ?_
      have q0 : QD (flF (lE l i x15 bg) x (12 * e + f2) (q2 + 1 - f2)) (erC σ i (nI i) (nbA σ i) (nbB σ i)) nb nw np := by
        rw [hfl, hx]
        exact S2 (S1 D hi h9 h14 hbg) (by omega) he
      have es : sEr σ i (nI i) (nbA σ i) (nbB σ i) y = erC σ i (nI i) (nbA σ i) (nbB σ i) := by
        unfold sEr erD
        rw [e10, e11, e12, nI_1, if_neg (show ¬ ¬ nbB σ i = -1 from fun z => z ejc), if_neg (show ¬ ¬ nbA σ i = -1 from fun z => z eja)]
      exact ⟨by rw [hx15], _, nw, rfl, by omega, by omega, by rw [es]; exact q0⟩
    have K186 : ∀ x14 x15 bg : Int32, x15 = cutE σ i (nbA σ i) (nbB σ i) → (erA σ i (nbA σ i) (nbB σ i)).2 14 i = σ.2 14 i - x15 → bg = begE (erA σ i (nbA σ i) (nbB σ i)) i (nbA σ i) (nbB σ i) → ∀ m n : Nat, m + n = q2 + 1 - f2 → Y w mL_erects θ0 (PL κ p l) (fun v κ' => v = some (.int (cutE σ i (nbA σ i) (nbB σ i))) ∧ ∃ l' nw', κ' = PL κ p l' ∧ nw ≤ nw' ∧ nw' ≤ nw + 2 ∧ QD l' (sEr σ i (nI i) (nbA σ i) (nbB σ i) y) nb nw' np) (fun _ _ => False) 0 0 186 [some (.ref (tM 0)), some (.ref (tM 2)), some (.ref (tM 4)), some (.ref (tM 6)), some (.ref (tM 7)), some (.ref (tM 8)), some (.ref (tM 9)), some (.int x), some (.int z), some (.int (nI f2)), some (.int (nI q2)), some (.int (nI e)), some (.int (-1)), some (.int (-1)), some (.int x14), some (.int x15), some (.int (nI (f2 + n)))] [] (PL κ p (flF (lE l i x15 bg) x (12 * e + f2) n)) := by
      intro x14 x15 bg hx15 h14 hbg m
      induction m with
      | zero =>
        intro n hn
        have en : n = q2 + 1 - f2 := by omega
        subst en
        refine runL_go (κ := κ) (p := p) rkL_erects (fun p => Nat.beq p 33 || Nat.beq p 59 || Nat.beq p 113 || Nat.beq p 186 || Nat.beq p 222) 300 rfl ?_
        exact And.intro (fun _ => K222 x14 x15 bg _ hx15 h14 hbg) (fun c => absurd (nI_lt (by omega) (by omega)) c)
      | succ m ih =>
        intro n hn
        refine runL_go (κ := κ) (p := p) rkL_erects (fun p => Nat.beq p 33 || Nat.beq p 59 || Nat.beq p 113 || Nat.beq p 186 || Nat.beq p 222) 300 rfl ?_
        refine And.intro (fun c => absurd ((nI_ltI (by omega) (by omega)).mp c) (by omega)) (fun c190 => ?_)
        refine ⟨7, (12 * e + f2 + n), A.ld (by decide) (show _ < 36 by omega) (by rw [ix12, Nat.add_assoc]), ?_⟩
        refine ⟨9, 9, A.ld (by decide) (by decide) rfl, ?_⟩
        refine ⟨9, 9, A.ld (by decide) (by decide) rfl, ?_⟩
        have := ih (n + 1) (by omega)
        rw [show f2 + (n + 1) = f2 + n + 1 by omega, ← nI_1 (f2 + n)] at this
        refine cast (congrArg (fun t => Y w mL_erects θ0 _ _ _ 0 0 186 _ _ (PL κ p t)) ?_) this
        show lu (lu (flF (lE l i x15 bg) x (12 * e + f2) n) 7 (12 * e + f2 + n) x) 9 9 (flF (lE l i x15 bg) x (12 * e + f2) n 9 9 + 100) = _
        have r99 : lu (flF (lE l i x15 bg) x (12 * e + f2) n) 7 (12 * e + f2 + n) x 9 9 = flF (lE l i x15 bg) x (12 * e + f2) n 9 9 := lu_o (fun z => absurd z.1 (by decide))
        rw [r99]
    have K113 : ∀ x14 x15 : Int32, x15 = cutE σ i (nbA σ i) (nbB σ i) → (erA σ i (nbA σ i) (nbB σ i)).2 14 i = σ.2 14 i - x15 → Y w mL_erects θ0 (PL κ p l) (fun v κ' => v = some (.int (cutE σ i (nbA σ i) (nbB σ i))) ∧ ∃ l' nw', κ' = PL κ p l' ∧ nw ≤ nw' ∧ nw' ≤ nw + 2 ∧ QD l' (sEr σ i (nI i) (nbA σ i) (nbB σ i) y) nb nw' np) (fun _ _ => False) 0 0 113 [some (.ref (tM 0)), some (.ref (tM 2)), some (.ref (tM 4)), some (.ref (tM 6)), some (.ref (tM 7)), some (.ref (tM 8)), some (.ref (tM 9)), some (.int x), some (.int z), some (.int (nI f2)), some (.int (nI q2)), some (.int (nI e)), some (.int (-1)), some (.int (-1)), some (.int x14), none, none] [.int x15] (PL κ p l) := by
      intro x14 x15 hx15 h14
      have BG : (1000 * nI f2) = begE (erA σ i (nbA σ i) (nbB σ i)) i (nbA σ i) (nbB σ i) := by
        unfold begE
        rw [eja, ejc, if_neg (fun z => z rfl), if_neg (fun z => z rfl), erA_row (by decide), e10]
      have K := K186 x14 x15 _ hx15 h14 BG (q2 + 1 - f2) 0 rfl
      have eL : ∀ B, lu (lu (lu l 2 i (l 2 i - x15)) 4 i B) 0 i (lu (lu l 2 i (l 2 i - x15)) 4 i B 0 i + 2048) = lE l i x15 B := fun B => by
        unfold lE
        rw [lu_o (fun z => absurd z.1 (by decide)), lu_o (fun z => absurd z.1 (by decide))]
      refine runL_go (κ := κ) (p := p) rkL_erects (fun p => Nat.beq p 33 || Nat.beq p 59 || Nat.beq p 113 || Nat.beq p 186 || Nat.beq p 222) 300 rfl ?_
      refine ⟨2, i, A.ld (by decide) hi40 hx, ?_⟩
      refine ⟨2, i, A.ld (by decide) hi40 hx, ?_⟩
      refine And.intro (fun c129 => ?_) (fun c129 => False.elim (by first | exact c129 (by decide) | exact absurd (by decide) c129 | exact absurd c129 (by decide)))
      refine And.intro (fun c148 => ?_) (fun c148 => False.elim (by first | exact c148 (by decide) | exact absurd (by decide) c148 | exact absurd c148 (by decide)))
      refine ⟨4, i, A.ld (by decide) hi40 hx, ?_⟩
      refine ⟨0, i, A.ld (by decide) hi40 hx, ?_⟩
      refine ⟨0, i, A.ld (by decide) hi40 hx, ?_⟩
      refine cast (congrArg (fun t => Y w mL_erects θ0 _ _ _ 0 0 186 _ _ (PL κ p t)) ?_) K
      exact (eL _).symm
    refine runL_go (κ := κ) (p := p) rkL_erects (fun p => Nat.beq p 33 || Nat.beq p 59 || Nat.beq p 113 || Nat.beq p 186 || Nat.beq p 222) 300 rfl ?_
    have ca : erA σ i (nbA σ i) (nbB σ i) = σ := by unfold erA; rw [if_neg (fun z => z.1 eja)]
    have ct : cutE σ i (nbA σ i) (nbB σ i) = 0 := by unfold cutE; rw [if_neg (fun z => z.1 eja)]
    refine And.intro (fun c61 => ?_) (fun c61 => False.elim (by first | exact c61 (by decide) | exact absurd (by decide) c61 | exact absurd c61 (by decide)))
    refine pL_erects_69 ?_
    refine runL_ok rkL_erects (fun p => Nat.beq p 33 || Nat.beq p 59 || Nat.beq p 113 || Nat.beq p 186 || Nat.beq p 222) 300 _ _ _ _ _ _ ?_
    refine ⟨2, i, A.ld (by decide) hi40 hx, ?_⟩
    refine And.intro (fun c99 => ?_) (fun c99 => False.elim (by first | exact c99 (by rw [b2, hl1]; exact nI_le hlb (by decide)) | exact absurd (by rw [b2, hl1]; exact nI_le hlb (by decide)) c99 | exact absurd c99 (by rw [b2, hl1]; exact nI_le hlb (by decide))))
    exact K113 _ _ ct.symm (by rw [ca]; exact (Int32.sub_zero _).symm)
  have Pny : nbA σ i = -1 → ∀ jc, jc < nb → nbB σ i = nI jc → σ.2 9 jc = 2 → Y w mL_erects θ0 (PL κ p l) (fun v κ' => v = some (.int (cutE σ i (nbA σ i) (nbB σ i))) ∧ ∃ l' nw', κ' = PL κ p l' ∧ nw ≤ nw' ∧ nw' ≤ nw + 2 ∧ QD l' (sEr σ i (nI i) (nbA σ i) (nbB σ i) y) nb nw' np) (fun _ _ => False) 0 0 59 [some (.ref (tM 0)), some (.ref (tM 2)), some (.ref (tM 4)), some (.ref (tM 6)), some (.ref (tM 7)), some (.ref (tM 8)), some (.ref (tM 9)), some (.int x), some (.int z), some (.int (nI f2)), some (.int (nI q2)), some (.int (nI e)), some (.int (-1)), some (.int (nI jc)), none, none, none] [] (PL κ p l) := by
    intro eja jc hjc ejc hjc9
    have njc : jc ≠ i := fun z => by rw [z, h9] at hjc9; exact absurd hjc9 (by decide)
    have cc : ¬ nI jc = (-1 : Int32) := nI_mm (by omega)
    have hq1c : q2 + 1 ≤ 11 := Nat.le_of_not_lt (fun z => by
      have z2 : q2 = 11 := by omega
      rw [nc, z2, show nI 11 + 1 = (12 : Int32) by decide] at ejc
      unfold bAt at ejc
      rw [if_neg (by decide)] at ejc
      exact cc ejc.symm)
    have K222 : ∀ x14 x15 bg k : Int32, x15 = cutE σ i (nbA σ i) (nbB σ i) → (erA σ i (nbA σ i) (nbB σ i)).2 14 i = σ.2 14 i - x15 → bg = begE (erA σ i (nbA σ i) (nbB σ i)) i (nbA σ i) (nbB σ i) → Y w mL_erects θ0 (PL κ p l) (fun v κ' => v = some (.int (cutE σ i (nbA σ i) (nbB σ i))) ∧ ∃ l' nw', κ' = PL κ p l' ∧ nw ≤ nw' ∧ nw' ≤ nw + 2 ∧ QD l' (sEr σ i (nI i) (nbA σ i) (nbB σ i) y) nb nw' np) (fun _ _ => False) 0 0 222 [some (.ref (tM 0)), some (.ref (tM 2)), some (.ref (tM 4)), some (.ref (tM 6)), some (.ref (tM 7)), some (.ref (tM 8)), some (.ref (tM 9)), some (.int x), some (.int z), some (.int (nI f2)), some (.int (nI q2)), some (.int (nI e)), some (.int (-1)), some (.int (nI jc)), some (.int x14), some (.int x15), some (.int k)] [] (PL κ p (flF (lE l i x15 bg) x (12 * e + f2) (q2 + 1 - f2))) := by
      intro x14 x15 bg k hx15 h14 hbg
      refine runL_go (κ := κ) (p := p) rkL_erects noCut 300 rfl ?_
      refine And.intro (fun c224 => ?_) (fun c224 => False.elim (by first | exact c224 (by decide) | exact absurd (by decide) c224 | exact absurd c224 (by decide)))
      refine And.intro (fun c251 => False.elim (by first | exact c251 (nI_pos (by omega)) | exact absurd (nI_pos (by omega)) c251 | exact absurd c251 (nI_pos (by omega)))) (fun c251 => ?_)
      refine pL_erects_266 rfl rfl rfl (c_L_welds A (n := nw) (y := y) ((flF_o (by decide) (by decide) _).trans ((lE_o (Or.inr (by decide))).trans CG.2.2.2.2.2.2.2.2.1)) hz (by omega) hy) (fun v κ1 hq266 ho266 hk266 => ?_)
      obtain ⟨rfl, rfl⟩ := hq266
      refine runL_ok rkL_erects noCut 300 _ _ _ _ _ _ ?_
      refine pL_erects_277 rfl rfl rfl (c_L_spoils A (f0 := q2 + 1) (e0 := e) (nI_1 q2) rfl he (by omega) hq1c) (fun v κ1 hq277 ho277 hk277 => ?_)
      obtain ⟨rfl, rfl⟩ := hq277
      refine runL_ok rkL_erects noCut 300 _ _ _ _ _ _ ?_
      refine And.intro ⟨Nat.le_of_ble_eq_true rfl, Nat.le_of_ble_eq_true rfl⟩ ?_
      have q0 : QD (flF (lE l i x15 bg) x (12 * e + f2) (q2 + 1 - f2)) (erC σ i (nI i) (nbA σ i) (nbB σ i)) nb nw np := by
        rw [hfl, hx]
        exact S2 (S1 D hi h9 h14 hbg) (by omega) he
      have q2x := S3 (y := y) (f := q2 + 1) (e := e) q0 hb40 (by omega) hy (by omega) hq1c he
      have es : sEr σ i (nI i) (nbA σ i) (nbB σ i) y = sSpo (sMak (erC σ i (nI i) (nbA σ i) (nbB σ i)) (-1) (nI (q2 + 1)) (nI e) y) (nI (q2 + 1)) (nI e) := by
        unfold sEr erD
        rw [e10, e11, e12, nI_1, if_pos (show ¬ nbB σ i = -1 by rw [ejc]; exact cc), if_neg (show ¬ ¬ nbA σ i = -1 from fun z => z eja)]
      exact ⟨by rw [hx15], _, nw + 1, rfl, by omega, by omega, by rw [es, nI_1]; exact q2x⟩
    have K186 : ∀ x14 x15 bg : Int32, x15 = cutE σ i (nbA σ i) (nbB σ i) → (erA σ i (nbA σ i) (nbB σ i)).2 14 i = σ.2 14 i - x15 → bg = begE (erA σ i (nbA σ i) (nbB σ i)) i (nbA σ i) (nbB σ i) → ∀ m n : Nat, m + n = q2 + 1 - f2 → Y w mL_erects θ0 (PL κ p l) (fun v κ' => v = some (.int (cutE σ i (nbA σ i) (nbB σ i))) ∧ ∃ l' nw', κ' = PL κ p l' ∧ nw ≤ nw' ∧ nw' ≤ nw + 2 ∧ QD l' (sEr σ i (nI i) (nbA σ i) (nbB σ i) y) nb nw' np) (fun _ _ => False) 0 0 186 [some (.ref (tM 0)), some (.ref (tM 2)), some (.ref (tM 4)), some (.ref (tM 6)), some (.ref (tM 7)), some (.ref (tM 8)), some (.ref (tM 9)), some (.int x), some (.int z), some (.int (nI f2)), some (.int (nI q2)), some (.int (nI e)), some (.int (-1)), some (.int (nI jc)), some (.int x14), some (.int x15), some (.int (nI (f2 + n)))] [] (PL κ p (flF (lE l i x15 bg) x (12 * e + f2) n)) := by
      intro x14 x15 bg hx15 h14 hbg m
      induction m with
      | zero =>
        intro n hn
        have en : n = q2 + 1 - f2 := by omega
        subst en
        refine runL_go (κ := κ) (p := p) rkL_erects (fun p => Nat.beq p 33 || Nat.beq p 59 || Nat.beq p 113 || Nat.beq p 186 || Nat.beq p 222) 300 rfl ?_
        exact And.intro (fun _ => K222 x14 x15 bg _ hx15 h14 hbg) (fun c => absurd (nI_lt (by omega) (by omega)) c)
      | succ m ih =>
        intro n hn
        refine runL_go (κ := κ) (p := p) rkL_erects (fun p => Nat.beq p 33 || Nat.beq p 59 || Nat.beq p 113 || Nat.beq p 186 || Nat.beq p 222) 300 rfl ?_
        refine And.intro (fun c => absurd ((nI_ltI (by omega) (by omega)).mp c) (by omega)) (fun c190 => ?_)
        refine ⟨7, (12 * e + f2 + n), A.ld (by decide) (show _ < 36 by omega) (by rw [ix12, Nat.add_assoc]), ?_⟩
        refine ⟨9, 9, A.ld (by decide) (by decide) rfl, ?_⟩
        refine ⟨9, 9, A.ld (by decide) (by decide) rfl, ?_⟩
        have := ih (n + 1) (by omega)
        rw [show f2 + (n + 1) = f2 + n + 1 by omega, ← nI_1 (f2 + n)] at this
        refine cast (congrArg (fun t => Y w mL_erects θ0 _ _ _ 0 0 186 _ _ (PL κ p t)) ?_) this
        show lu (lu (flF (lE l i x15 bg) x (12 * e + f2) n) 7 (12 * e + f2 + n) x) 9 9 (flF (lE l i x15 bg) x (12 * e + f2) n 9 9 + 100) = _
        have r99 : lu (flF (lE l i x15 bg) x (12 * e + f2) n) 7 (12 * e + f2 + n) x 9 9 = flF (lE l i x15 bg) x (12 * e + f2) n 9 9 := lu_o (fun z => absurd z.1 (by decide))
        rw [r99]
    have K113 : ∀ x14 x15 : Int32, x15 = cutE σ i (nbA σ i) (nbB σ i) → (erA σ i (nbA σ i) (nbB σ i)).2 14 i = σ.2 14 i - x15 → Y w mL_erects θ0 (PL κ p l) (fun v κ' => v = some (.int (cutE σ i (nbA σ i) (nbB σ i))) ∧ ∃ l' nw', κ' = PL κ p l' ∧ nw ≤ nw' ∧ nw' ≤ nw + 2 ∧ QD l' (sEr σ i (nI i) (nbA σ i) (nbB σ i) y) nb nw' np) (fun _ _ => False) 0 0 113 [some (.ref (tM 0)), some (.ref (tM 2)), some (.ref (tM 4)), some (.ref (tM 6)), some (.ref (tM 7)), some (.ref (tM 8)), some (.ref (tM 9)), some (.int x), some (.int z), some (.int (nI f2)), some (.int (nI q2)), some (.int (nI e)), some (.int (-1)), some (.int (nI jc)), some (.int x14), none, none] [.int x15] (PL κ p l) := by
      intro x14 x15 hx15 h14
      have BG : ((lu l 2 i (l 2 i - x15)) 4 jc - 4 - (lu l 2 i (l 2 i - x15)) 2 i) = begE (erA σ i (nbA σ i) (nbB σ i)) i (nbA σ i) (nbB σ i) := by
        unfold begE
        rw [eja, ejc, if_neg (fun z => z rfl), if_pos cc, nI_clamp (by omega), lu_o (fun z => absurd z.1 (by decide)), lu_s, (CB jc hjc).2.2.2.2.1 hjc9, b2]
        rw [eja, ejc] at h14
        rw [h14, erA_row (by decide)]
      have K := K186 x14 x15 _ hx15 h14 BG (q2 + 1 - f2) 0 rfl
      have eL : ∀ B, lu (lu (lu l 2 i (l 2 i - x15)) 4 i B) 0 i (lu (lu l 2 i (l 2 i - x15)) 4 i B 0 i + 2048) = lE l i x15 B := fun B => by
        unfold lE
        rw [lu_o (fun z => absurd z.1 (by decide)), lu_o (fun z => absurd z.1 (by decide))]
      refine runL_go (κ := κ) (p := p) rkL_erects (fun p => Nat.beq p 33 || Nat.beq p 59 || Nat.beq p 113 || Nat.beq p 186 || Nat.beq p 222) 300 rfl ?_
      refine ⟨2, i, A.ld (by decide) hi40 hx, ?_⟩
      refine ⟨2, i, A.ld (by decide) hi40 hx, ?_⟩
      refine And.intro (fun c129 => ?_) (fun c129 => False.elim (by first | exact c129 (by decide) | exact absurd (by decide) c129 | exact absurd c129 (by decide)))
      refine And.intro (fun c148 => False.elim (by first | exact c148 (nI_pos (by omega)) | exact absurd (nI_pos (by omega)) c148 | exact absurd c148 (nI_pos (by omega)))) (fun c148 => ?_)
      refine ⟨4, jc, A.ld (by decide) (show jc < 40 by omega) rfl, ?_⟩
      refine ⟨2, i, A.ld (by decide) hi40 hx, ?_⟩
      refine ⟨4, i, A.ld (by decide) hi40 hx, ?_⟩
      refine ⟨0, i, A.ld (by decide) hi40 hx, ?_⟩
      refine ⟨0, i, A.ld (by decide) hi40 hx, ?_⟩
      refine cast (congrArg (fun t => Y w mL_erects θ0 _ _ _ 0 0 186 _ _ (PL κ p t)) ?_) K
      exact (eL _).symm
    refine runL_go (κ := κ) (p := p) rkL_erects (fun p => Nat.beq p 33 || Nat.beq p 59 || Nat.beq p 113 || Nat.beq p 186 || Nat.beq p 222) 300 rfl ?_
    have ca : erA σ i (nbA σ i) (nbB σ i) = σ := by unfold erA; rw [if_neg (fun z => z.1 eja)]
    have ct : cutE σ i (nbA σ i) (nbB σ i) = 0 := by unfold cutE; rw [if_neg (fun z => z.1 eja)]
    refine And.intro (fun c61 => ?_) (fun c61 => False.elim (by first | exact c61 (by decide) | exact absurd (by decide) c61 | exact absurd c61 (by decide)))
    refine pL_erects_69 ?_
    refine runL_ok rkL_erects (fun p => Nat.beq p 33 || Nat.beq p 59 || Nat.beq p 113 || Nat.beq p 186 || Nat.beq p 222) 300 _ _ _ _ _ _ ?_
    refine ⟨2, i, A.ld (by decide) hi40 hx, ?_⟩
    refine And.intro (fun c99 => ?_) (fun c99 => False.elim (by first | exact c99 (by rw [b2, hl1]; exact nI_le hlb (by decide)) | exact absurd (by rw [b2, hl1]; exact nI_le hlb (by decide)) c99 | exact absurd c99 (by rw [b2, hl1]; exact nI_le hlb (by decide))))
    exact K113 _ _ ct.symm (by rw [ca]; exact (Int32.sub_zero _).symm)
  have Pyn : ∀ ja, ja < nb → nbA σ i = nI ja → σ.2 9 ja = 2 → nbB σ i = -1 → Y w mL_erects θ0 (PL κ p l) (fun v κ' => v = some (.int (cutE σ i (nbA σ i) (nbB σ i))) ∧ ∃ l' nw', κ' = PL κ p l' ∧ nw ≤ nw' ∧ nw' ≤ nw + 2 ∧ QD l' (sEr σ i (nI i) (nbA σ i) (nbB σ i) y) nb nw' np) (fun _ _ => False) 0 0 59 [some (.ref (tM 0)), some (.ref (tM 2)), some (.ref (tM 4)), some (.ref (tM 6)), some (.ref (tM 7)), some (.ref (tM 8)), some (.ref (tM 9)), some (.int x), some (.int z), some (.int (nI f2)), some (.int (nI q2)), some (.int (nI e)), some (.int (nI ja)), some (.int (-1)), none, none, none] [] (PL κ p l) := by
    intro ja hja eja hja9 ejc
    have nja : ja ≠ i := fun z => by rw [z, h9] at hja9; exact absurd hja9 (by decide)
    have aa : ¬ nI ja = (-1 : Int32) := nI_mm (by omega)
    have hf1a : 1 ≤ f2 := Nat.pos_of_ne_zero (fun z => by rw [na, z, show nI 0 - 1 = (-1 : Int32) by decide] at eja; unfold bAt at eja; rw [if_neg (by decide)] at eja; exact aa eja.symm)
    have K222 : ∀ x14 x15 bg k : Int32, x15 = cutE σ i (nbA σ i) (nbB σ i) → (erA σ i (nbA σ i) (nbB σ i)).2 14 i = σ.2 14 i - x15 → bg = begE (erA σ i (nbA σ i) (nbB σ i)) i (nbA σ i) (nbB σ i) → Y w mL_erects θ0 (PL κ p l) (fun v κ' => v = some (.int (cutE σ i (nbA σ i) (nbB σ i))) ∧ ∃ l' nw', κ' = PL κ p l' ∧ nw ≤ nw' ∧ nw' ≤ nw + 2 ∧ QD l' (sEr σ i (nI i) (nbA σ i) (nbB σ i) y) nb nw' np) (fun _ _ => False) 0 0 222 [some (.ref (tM 0)), some (.ref (tM 2)), some (.ref (tM 4)), some (.ref (tM 6)), some (.ref (tM 7)), some (.ref (tM 8)), some (.ref (tM 9)), some (.int x), some (.int z), some (.int (nI f2)), some (.int (nI q2)), some (.int (nI e)), some (.int (nI ja)), some (.int (-1)), some (.int x14), some (.int x15), some (.int k)] [] (PL κ p (flF (lE l i x15 bg) x (12 * e + f2) (q2 + 1 - f2))) := by
      intro x14 x15 bg k hx15 h14 hbg
      refine runL_go (κ := κ) (p := p) rkL_erects noCut 300 rfl ?_
      refine And.intro (fun c224 => False.elim (by first | exact c224 (nI_pos (by omega)) | exact absurd (nI_pos (by omega)) c224 | exact absurd c224 (nI_pos (by omega)))) (fun c224 => ?_)
      refine pL_erects_237 rfl rfl rfl (c_L_welds A (n := nw) (y := y) ((flF_o (by decide) (by decide) _).trans ((lE_o (Or.inr (by decide))).trans CG.2.2.2.2.2.2.2.2.1)) hz (by omega) hy) (fun v κ1 hq237 ho237 hk237 => ?_)
      obtain ⟨rfl, rfl⟩ := hq237
      refine runL_ok rkL_erects noCut 300 _ _ _ _ _ _ ?_
      refine pL_erects_246 rfl rfl rfl (c_L_spoils A (f0 := f2) (e0 := e) rfl rfl he hf1a (by omega)) (fun v κ1 hq246 ho246 hk246 => ?_)
      obtain ⟨rfl, rfl⟩ := hq246
      refine runL_ok rkL_erects noCut 300 _ _ _ _ _ _ ?_
      refine And.intro (fun c251 => ?_) (fun c251 => False.elim (by first | exact c251 (by decide) | exact absurd (by decide) c251 | exact absurd c251 (by decide)))
      refine And.intro ⟨Nat.le_of_ble_eq_true rfl, Nat.le_of_ble_eq_true rfl⟩ ?_
      have q0 : QD (flF (lE l i x15 bg) x (12 * e + f2) (q2 + 1 - f2)) (erC σ i (nI i) (nbA σ i) (nbB σ i)) nb nw np := by
        rw [hfl, hx]
        exact S2 (S1 D hi h9 h14 hbg) (by omega) he
      have q1 := S3 (y := y) (f := f2) (e := e) q0 hb40 (by omega) hy hf1a (by omega) he
      have es : sEr σ i (nI i) (nbA σ i) (nbB σ i) y = sSpo (sMak (erC σ i (nI i) (nbA σ i) (nbB σ i)) (-1) (nI f2) (nI e) y) (nI f2) (nI e) := by
        unfold sEr erD
        rw [e10, e11, e12, nI_1, if_neg (show ¬ ¬ nbB σ i = -1 from fun z => z ejc), if_pos (show ¬ nbA σ i = -1 by rw [eja]; exact aa)]
      exact ⟨by rw [hx15], _, nw + 1, rfl, by omega, by omega, by rw [es]; exact q1⟩
    have K186 : ∀ x14 x15 bg : Int32, x15 = cutE σ i (nbA σ i) (nbB σ i) → (erA σ i (nbA σ i) (nbB σ i)).2 14 i = σ.2 14 i - x15 → bg = begE (erA σ i (nbA σ i) (nbB σ i)) i (nbA σ i) (nbB σ i) → ∀ m n : Nat, m + n = q2 + 1 - f2 → Y w mL_erects θ0 (PL κ p l) (fun v κ' => v = some (.int (cutE σ i (nbA σ i) (nbB σ i))) ∧ ∃ l' nw', κ' = PL κ p l' ∧ nw ≤ nw' ∧ nw' ≤ nw + 2 ∧ QD l' (sEr σ i (nI i) (nbA σ i) (nbB σ i) y) nb nw' np) (fun _ _ => False) 0 0 186 [some (.ref (tM 0)), some (.ref (tM 2)), some (.ref (tM 4)), some (.ref (tM 6)), some (.ref (tM 7)), some (.ref (tM 8)), some (.ref (tM 9)), some (.int x), some (.int z), some (.int (nI f2)), some (.int (nI q2)), some (.int (nI e)), some (.int (nI ja)), some (.int (-1)), some (.int x14), some (.int x15), some (.int (nI (f2 + n)))] [] (PL κ p (flF (lE l i x15 bg) x (12 * e + f2) n)) := by
      intro x14 x15 bg hx15 h14 hbg m
      induction m with
      | zero =>
        intro n hn
        have en : n = q2 + 1 - f2 := by omega
        subst en
        refine runL_go (κ := κ) (p := p) rkL_erects (fun p => Nat.beq p 33 || Nat.beq p 59 || Nat.beq p 113 || Nat.beq p 186 || Nat.beq p 222) 300 rfl ?_
        exact And.intro (fun _ => K222 x14 x15 bg _ hx15 h14 hbg) (fun c => absurd (nI_lt (by omega) (by omega)) c)
      | succ m ih =>
        intro n hn
        refine runL_go (κ := κ) (p := p) rkL_erects (fun p => Nat.beq p 33 || Nat.beq p 59 || Nat.beq p 113 || Nat.beq p 186 || Nat.beq p 222) 300 rfl ?_
        refine And.intro (fun c => absurd ((nI_ltI (by omega) (by omega)).mp c) (by omega)) (fun c190 => ?_)
        refine ⟨7, (12 * e + f2 + n), A.ld (by decide) (show _ < 36 by omega) (by rw [ix12, Nat.add_assoc]), ?_⟩
        refine ⟨9, 9, A.ld (by decide) (by decide) rfl, ?_⟩
        refine ⟨9, 9, A.ld (by decide) (by decide) rfl, ?_⟩
        have := ih (n + 1) (by omega)
        rw [show f2 + (n + 1) = f2 + n + 1 by omega, ← nI_1 (f2 + n)] at this
        refine cast (congrArg (fun t => Y w mL_erects θ0 _ _ _ 0 0 186 _ _ (PL κ p t)) ?_) this
        show lu (lu (flF (lE l i x15 bg) x (12 * e + f2) n) 7 (12 * e + f2 + n) x) 9 9 (flF (lE l i x15 bg) x (12 * e + f2) n 9 9 + 100) = _
        have r99 : lu (flF (lE l i x15 bg) x (12 * e + f2) n) 7 (12 * e + f2 + n) x 9 9 = flF (lE l i x15 bg) x (12 * e + f2) n 9 9 := lu_o (fun z => absurd z.1 (by decide))
        rw [r99]
    have K113 : ∀ x14 x15 : Int32, x15 = cutE σ i (nbA σ i) (nbB σ i) → (erA σ i (nbA σ i) (nbB σ i)).2 14 i = σ.2 14 i - x15 → Y w mL_erects θ0 (PL κ p l) (fun v κ' => v = some (.int (cutE σ i (nbA σ i) (nbB σ i))) ∧ ∃ l' nw', κ' = PL κ p l' ∧ nw ≤ nw' ∧ nw' ≤ nw + 2 ∧ QD l' (sEr σ i (nI i) (nbA σ i) (nbB σ i) y) nb nw' np) (fun _ _ => False) 0 0 113 [some (.ref (tM 0)), some (.ref (tM 2)), some (.ref (tM 4)), some (.ref (tM 6)), some (.ref (tM 7)), some (.ref (tM 8)), some (.ref (tM 9)), some (.int x), some (.int z), some (.int (nI f2)), some (.int (nI q2)), some (.int (nI e)), some (.int (nI ja)), some (.int (-1)), some (.int x14), none, none] [.int x15] (PL κ p l) := by
      intro x14 x15 hx15 h14
      have BG : ((lu l 2 i (l 2 i - x15)) 4 ja + (lu l 2 i (l 2 i - x15)) 2 ja + 4) = begE (erA σ i (nbA σ i) (nbB σ i)) i (nbA σ i) (nbB σ i) := by
        unfold begE eOf
        rw [eja, if_pos aa, nI_clamp (by omega), erA_row (by decide), ebA_o nja, lu_o (fun z => absurd z.1 (by decide)), lu_o (fun z => nja z.2), (CB ja hja).2.2.2.2.1 hja9, (CB ja hja).2.2.1]
      have K := K186 x14 x15 _ hx15 h14 BG (q2 + 1 - f2) 0 rfl
      have eL : ∀ B, lu (lu (lu l 2 i (l 2 i - x15)) 4 i B) 0 i (lu (lu l 2 i (l 2 i - x15)) 4 i B 0 i + 2048) = lE l i x15 B := fun B => by
        unfold lE
        rw [lu_o (fun z => absurd z.1 (by decide)), lu_o (fun z => absurd z.1 (by decide))]
      refine runL_go (κ := κ) (p := p) rkL_erects (fun p => Nat.beq p 33 || Nat.beq p 59 || Nat.beq p 113 || Nat.beq p 186 || Nat.beq p 222) 300 rfl ?_
      refine ⟨2, i, A.ld (by decide) hi40 hx, ?_⟩
      refine ⟨2, i, A.ld (by decide) hi40 hx, ?_⟩
      refine And.intro (fun c129 => False.elim (by first | exact c129 (nI_pos (by omega)) | exact absurd (nI_pos (by omega)) c129 | exact absurd c129 (nI_pos (by omega)))) (fun c129 => ?_)
      refine ⟨4, ja, A.ld (by decide) (show ja < 40 by omega) rfl, ?_⟩
      refine ⟨2, ja, A.ld (by decide) (show ja < 40 by omega) rfl, ?_⟩
      refine ⟨4, i, A.ld (by decide) hi40 hx, ?_⟩
      refine ⟨0, i, A.ld (by decide) hi40 hx, ?_⟩
      refine ⟨0, i, A.ld (by decide) hi40 hx, ?_⟩
      refine cast (congrArg (fun t => Y w mL_erects θ0 _ _ _ 0 0 186 _ _ (PL κ p t)) ?_) K
      exact (eL _).symm
    refine runL_go (κ := κ) (p := p) rkL_erects (fun p => Nat.beq p 33 || Nat.beq p 59 || Nat.beq p 113 || Nat.beq p 186 || Nat.beq p 222) 300 rfl ?_
    have ca : erA σ i (nbA σ i) (nbB σ i) = σ := by unfold erA; rw [if_neg (fun z => z.2 ejc)]
    have ct : cutE σ i (nbA σ i) (nbB σ i) = 0 := by unfold cutE; rw [if_neg (fun z => z.2 ejc)]
    refine And.intro (fun c61 => False.elim (by first | exact c61 (nI_pos (by omega)) | exact absurd (nI_pos (by omega)) c61 | exact absurd c61 (nI_pos (by omega)))) (fun c61 => ?_)
    refine And.intro (fun c66 => False.elim (by first | exact c66 (by decide) | exact absurd (by decide) c66 | exact absurd c66 (by decide))) (fun c66 => ?_)
    refine pL_erects_69 ?_
    refine runL_ok rkL_erects (fun p => Nat.beq p 33 || Nat.beq p 59 || Nat.beq p 113 || Nat.beq p 186 || Nat.beq p 222) 300 _ _ _ _ _ _ ?_
    refine ⟨2, i, A.ld (by decide) hi40 hx, ?_⟩
    refine And.intro (fun c99 => ?_) (fun c99 => False.elim (by first | exact c99 (by rw [b2, hl1]; exact nI_le hlb (by decide)) | exact absurd (by rw [b2, hl1]; exact nI_le hlb (by decide)) c99 | exact absurd c99 (by rw [b2, hl1]; exact nI_le hlb (by decide))))
    exact K113 _ _ ct.symm (by rw [ca]; exact (Int32.sub_zero _).symm)
  have Pyy : ∀ ja, ja < nb → nbA σ i = nI ja → σ.2 9 ja = 2 → ∀ jc, jc < nb → nbB σ i = nI jc → σ.2 9 jc = 2 → Y w mL_erects θ0 (PL κ p l) (fun v κ' => v = some (.int (cutE σ i (nbA σ i) (nbB σ i))) ∧ ∃ l' nw', κ' = PL κ p l' ∧ nw ≤ nw' ∧ nw' ≤ nw + 2 ∧ QD l' (sEr σ i (nI i) (nbA σ i) (nbB σ i) y) nb nw' np) (fun _ _ => False) 0 0 59 [some (.ref (tM 0)), some (.ref (tM 2)), some (.ref (tM 4)), some (.ref (tM 6)), some (.ref (tM 7)), some (.ref (tM 8)), some (.ref (tM 9)), some (.int x), some (.int z), some (.int (nI f2)), some (.int (nI q2)), some (.int (nI e)), some (.int (nI ja)), some (.int (nI jc)), none, none, none] [] (PL κ p l) := by
    intro ja hja eja hja9 jc hjc ejc hjc9
    have nja : ja ≠ i := fun z => by rw [z, h9] at hja9; exact absurd hja9 (by decide)
    have aa : ¬ nI ja = (-1 : Int32) := nI_mm (by omega)
    have njc : jc ≠ i := fun z => by rw [z, h9] at hjc9; exact absurd hjc9 (by decide)
    have cc : ¬ nI jc = (-1 : Int32) := nI_mm (by omega)
    have hf1a : 1 ≤ f2 := Nat.pos_of_ne_zero (fun z => by rw [na, z, show nI 0 - 1 = (-1 : Int32) by decide] at eja; unfold bAt at eja; rw [if_neg (by decide)] at eja; exact aa eja.symm)
    have hq1c : q2 + 1 ≤ 11 := Nat.le_of_not_lt (fun z => by
      have z2 : q2 = 11 := by omega
      rw [nc, z2, show nI 11 + 1 = (12 : Int32) by decide] at ejc
      unfold bAt at ejc
      rw [if_neg (by decide)] at ejc
      exact cc ejc.symm)
    have K222 : ∀ x14 x15 bg k : Int32, x15 = cutE σ i (nbA σ i) (nbB σ i) → (erA σ i (nbA σ i) (nbB σ i)).2 14 i = σ.2 14 i - x15 → bg = begE (erA σ i (nbA σ i) (nbB σ i)) i (nbA σ i) (nbB σ i) → Y w mL_erects θ0 (PL κ p l) (fun v κ' => v = some (.int (cutE σ i (nbA σ i) (nbB σ i))) ∧ ∃ l' nw', κ' = PL κ p l' ∧ nw ≤ nw' ∧ nw' ≤ nw + 2 ∧ QD l' (sEr σ i (nI i) (nbA σ i) (nbB σ i) y) nb nw' np) (fun _ _ => False) 0 0 222 [some (.ref (tM 0)), some (.ref (tM 2)), some (.ref (tM 4)), some (.ref (tM 6)), some (.ref (tM 7)), some (.ref (tM 8)), some (.ref (tM 9)), some (.int x), some (.int z), some (.int (nI f2)), some (.int (nI q2)), some (.int (nI e)), some (.int (nI ja)), some (.int (nI jc)), some (.int x14), some (.int x15), some (.int k)] [] (PL κ p (flF (lE l i x15 bg) x (12 * e + f2) (q2 + 1 - f2))) := by
      intro x14 x15 bg k hx15 h14 hbg
      have q1w : wlF (flF (lE l i x15 bg) x (12 * e + f2) (q2 + 1 - f2)) nw (-1) (nI f2) (nI e) y 9 11 = nI (nw + 1) := by
        rw [wlF_0, lu_s, (flF_o (by decide) (by decide) _).trans ((lE_o (Or.inr (by decide))).trans CG.2.2.2.2.2.2.2.2.1)]
        exact nI_1 nw
      refine runL_go (κ := κ) (p := p) rkL_erects noCut 300 rfl ?_
      refine And.intro (fun c224 => False.elim (by first | exact c224 (nI_pos (by omega)) | exact absurd (nI_pos (by omega)) c224 | exact absurd c224 (nI_pos (by omega)))) (fun c224 => ?_)
      refine pL_erects_237 rfl rfl rfl (c_L_welds A (n := nw) (y := y) ((flF_o (by decide) (by decide) _).trans ((lE_o (Or.inr (by decide))).trans CG.2.2.2.2.2.2.2.2.1)) hz (by omega) hy) (fun v κ1 hq237 ho237 hk237 => ?_)
      obtain ⟨rfl, rfl⟩ := hq237
      refine runL_ok rkL_erects noCut 300 _ _ _ _ _ _ ?_
      refine pL_erects_246 rfl rfl rfl (c_L_spoils A (f0 := f2) (e0 := e) rfl rfl he hf1a (by omega)) (fun v κ1 hq246 ho246 hk246 => ?_)
      obtain ⟨rfl, rfl⟩ := hq246
      refine runL_ok rkL_erects noCut 300 _ _ _ _ _ _ ?_
      refine And.intro (fun c251 => False.elim (by first | exact c251 (nI_pos (by omega)) | exact absurd (nI_pos (by omega)) c251 | exact absurd c251 (nI_pos (by omega)))) (fun c251 => ?_)
      refine pL_erects_266 rfl rfl rfl (c_L_welds A (n := nw + 1) (y := y) ((spF_o (by decide)).trans q1w) hz (by omega) hy) (fun v κ1 hq266 ho266 hk266 => ?_)
      obtain ⟨rfl, rfl⟩ := hq266
      refine runL_ok rkL_erects noCut 300 _ _ _ _ _ _ ?_
      refine pL_erects_277 rfl rfl rfl (c_L_spoils A (f0 := q2 + 1) (e0 := e) (nI_1 q2) rfl he (by omega) hq1c) (fun v κ1 hq277 ho277 hk277 => ?_)
      obtain ⟨rfl, rfl⟩ := hq277
      refine runL_ok rkL_erects noCut 300 _ _ _ _ _ _ ?_
      refine And.intro ⟨Nat.le_of_ble_eq_true rfl, Nat.le_of_ble_eq_true rfl⟩ ?_
      have q0 : QD (flF (lE l i x15 bg) x (12 * e + f2) (q2 + 1 - f2)) (erC σ i (nI i) (nbA σ i) (nbB σ i)) nb nw np := by
        rw [hfl, hx]
        exact S2 (S1 D hi h9 h14 hbg) (by omega) he
      have q1 := S3 (y := y) (f := f2) (e := e) q0 hb40 (by omega) hy hf1a (by omega) he
      have q2x := S3 (y := y) (f := q2 + 1) (e := e) q1 hb40 (by omega) hy (by omega) hq1c he
      have es : sEr σ i (nI i) (nbA σ i) (nbB σ i) y = sSpo (sMak (sSpo (sMak (erC σ i (nI i) (nbA σ i) (nbB σ i)) (-1) (nI f2) (nI e) y) (nI f2) (nI e)) (-1) (nI (q2 + 1)) (nI e) y) (nI (q2 + 1)) (nI e) := by
        unfold sEr erD
        rw [e10, e11, e12, nI_1, if_pos (show ¬ nbB σ i = -1 by rw [ejc]; exact cc), if_pos (show ¬ nbA σ i = -1 by rw [eja]; exact aa)]
      exact ⟨by rw [hx15], _, nw + 1 + 1, rfl, by omega, by omega, by rw [es, nI_1]; exact q2x⟩
    have K186 : ∀ x14 x15 bg : Int32, x15 = cutE σ i (nbA σ i) (nbB σ i) → (erA σ i (nbA σ i) (nbB σ i)).2 14 i = σ.2 14 i - x15 → bg = begE (erA σ i (nbA σ i) (nbB σ i)) i (nbA σ i) (nbB σ i) → ∀ m n : Nat, m + n = q2 + 1 - f2 → Y w mL_erects θ0 (PL κ p l) (fun v κ' => v = some (.int (cutE σ i (nbA σ i) (nbB σ i))) ∧ ∃ l' nw', κ' = PL κ p l' ∧ nw ≤ nw' ∧ nw' ≤ nw + 2 ∧ QD l' (sEr σ i (nI i) (nbA σ i) (nbB σ i) y) nb nw' np) (fun _ _ => False) 0 0 186 [some (.ref (tM 0)), some (.ref (tM 2)), some (.ref (tM 4)), some (.ref (tM 6)), some (.ref (tM 7)), some (.ref (tM 8)), some (.ref (tM 9)), some (.int x), some (.int z), some (.int (nI f2)), some (.int (nI q2)), some (.int (nI e)), some (.int (nI ja)), some (.int (nI jc)), some (.int x14), some (.int x15), some (.int (nI (f2 + n)))] [] (PL κ p (flF (lE l i x15 bg) x (12 * e + f2) n)) := by
      intro x14 x15 bg hx15 h14 hbg m
      induction m with
      | zero =>
        intro n hn
        have en : n = q2 + 1 - f2 := by omega
        subst en
        refine runL_go (κ := κ) (p := p) rkL_erects (fun p => Nat.beq p 33 || Nat.beq p 59 || Nat.beq p 113 || Nat.beq p 186 || Nat.beq p 222) 300 rfl ?_
        exact And.intro (fun _ => K222 x14 x15 bg _ hx15 h14 hbg) (fun c => absurd (nI_lt (by omega) (by omega)) c)
      | succ m ih =>
        intro n hn
        refine runL_go (κ := κ) (p := p) rkL_erects (fun p => Nat.beq p 33 || Nat.beq p 59 || Nat.beq p 113 || Nat.beq p 186 || Nat.beq p 222) 300 rfl ?_
        refine And.intro (fun c => absurd ((nI_ltI (by omega) (by omega)).mp c) (by omega)) (fun c190 => ?_)
        refine ⟨7, (12 * e + f2 + n), A.ld (by decide) (show _ < 36 by omega) (by rw [ix12, Nat.add_assoc]), ?_⟩
        refine ⟨9, 9, A.ld (by decide) (by decide) rfl, ?_⟩
        refine ⟨9, 9, A.ld (by decide) (by decide) rfl, ?_⟩
        have := ih (n + 1) (by omega)
        rw [show f2 + (n + 1) = f2 + n + 1 by omega, ← nI_1 (f2 + n)] at this
        refine cast (congrArg (fun t => Y w mL_erects θ0 _ _ _ 0 0 186 _ _ (PL κ p t)) ?_) this
        show lu (lu (flF (lE l i x15 bg) x (12 * e + f2) n) 7 (12 * e + f2 + n) x) 9 9 (flF (lE l i x15 bg) x (12 * e + f2) n 9 9 + 100) = _
        have r99 : lu (flF (lE l i x15 bg) x (12 * e + f2) n) 7 (12 * e + f2 + n) x 9 9 = flF (lE l i x15 bg) x (12 * e + f2) n 9 9 := lu_o (fun z => absurd z.1 (by decide))
        rw [r99]
    have K113 : ∀ x14 x15 : Int32, x15 = cutE σ i (nbA σ i) (nbB σ i) → (erA σ i (nbA σ i) (nbB σ i)).2 14 i = σ.2 14 i - x15 → Y w mL_erects θ0 (PL κ p l) (fun v κ' => v = some (.int (cutE σ i (nbA σ i) (nbB σ i))) ∧ ∃ l' nw', κ' = PL κ p l' ∧ nw ≤ nw' ∧ nw' ≤ nw + 2 ∧ QD l' (sEr σ i (nI i) (nbA σ i) (nbB σ i) y) nb nw' np) (fun _ _ => False) 0 0 113 [some (.ref (tM 0)), some (.ref (tM 2)), some (.ref (tM 4)), some (.ref (tM 6)), some (.ref (tM 7)), some (.ref (tM 8)), some (.ref (tM 9)), some (.int x), some (.int z), some (.int (nI f2)), some (.int (nI q2)), some (.int (nI e)), some (.int (nI ja)), some (.int (nI jc)), some (.int x14), none, none] [.int x15] (PL κ p l) := by
      intro x14 x15 hx15 h14
      have BG : ((lu l 2 i (l 2 i - x15)) 4 ja + (lu l 2 i (l 2 i - x15)) 2 ja + 4) = begE (erA σ i (nbA σ i) (nbB σ i)) i (nbA σ i) (nbB σ i) := by
        unfold begE eOf
        rw [eja, if_pos aa, nI_clamp (by omega), erA_row (by decide), ebA_o nja, lu_o (fun z => absurd z.1 (by decide)), lu_o (fun z => nja z.2), (CB ja hja).2.2.2.2.1 hja9, (CB ja hja).2.2.1]
      have K := K186 x14 x15 _ hx15 h14 BG (q2 + 1 - f2) 0 rfl
      have eL : ∀ B, lu (lu (lu l 2 i (l 2 i - x15)) 4 i B) 0 i (lu (lu l 2 i (l 2 i - x15)) 4 i B 0 i + 2048) = lE l i x15 B := fun B => by
        unfold lE
        rw [lu_o (fun z => absurd z.1 (by decide)), lu_o (fun z => absurd z.1 (by decide))]
      refine runL_go (κ := κ) (p := p) rkL_erects (fun p => Nat.beq p 33 || Nat.beq p 59 || Nat.beq p 113 || Nat.beq p 186 || Nat.beq p 222) 300 rfl ?_
      refine ⟨2, i, A.ld (by decide) hi40 hx, ?_⟩
      refine ⟨2, i, A.ld (by decide) hi40 hx, ?_⟩
      refine And.intro (fun c129 => False.elim (by first | exact c129 (nI_pos (by omega)) | exact absurd (nI_pos (by omega)) c129 | exact absurd c129 (nI_pos (by omega)))) (fun c129 => ?_)
      refine ⟨4, ja, A.ld (by decide) (show ja < 40 by omega) rfl, ?_⟩
      refine ⟨2, ja, A.ld (by decide) (show ja < 40 by omega) rfl, ?_⟩
      refine ⟨4, i, A.ld (by decide) hi40 hx, ?_⟩
      refine ⟨0, i, A.ld (by decide) hi40 hx, ?_⟩
      refine ⟨0, i, A.ld (by decide) hi40 hx, ?_⟩
      refine cast (congrArg (fun t => Y w mL_erects θ0 _ _ _ 0 0 186 _ _ (PL κ p t)) ?_) K
      exact (eL _).symm
    refine runL_go (κ := κ) (p := p) rkL_erects (fun p => Nat.beq p 33 || Nat.beq p 59 || Nat.beq p 113 || Nat.beq p 186 || Nat.beq p 222) 300 rfl ?_
    obtain ⟨m1, m2⟩ := hmis (by rw [eja]; exact aa) (by rw [ejc]; exact cc)
    have sp : l 4 jc - 8 - l 4 ja - l 2 ja = spc σ (nbA σ i) (nbB σ i) := by
      rw [eja, ejc]; unfold spc eOf
      rw [nI_clamp (by omega), nI_clamp (by omega), (CB jc hjc).2.2.2.2.1 hjc9, (CB ja hja).2.2.2.2.1 hja9, (CB ja hja).2.2.1]
      grind
    have ca : erA σ i (nbA σ i) (nbB σ i) = upA σ 14 i (σ.2 14 i - cutE σ i (nbA σ i) (nbB σ i)) := by unfold erA; rw [if_pos ⟨by rw [eja]; exact aa, by rw [ejc]; exact cc⟩]
    have ct : cutE σ i (nbA σ i) (nbB σ i) = if 0 < σ.2 14 i - spc σ (nbA σ i) (nbB σ i) then σ.2 14 i - spc σ (nbA σ i) (nbB σ i) else 0 := by unfold cutE; rw [if_pos ⟨by rw [eja]; exact aa, by rw [ejc]; exact cc⟩]
    have ck := cut_ok (by rw [hl1]; exact nI_pos' (by omega)) (by rw [hl1]; exact nI_le hlb (by decide) : σ.2 14 i ≤ 100000) m1 m2
    refine And.intro (fun c61 => False.elim (by first | exact c61 (nI_pos (by omega)) | exact absurd (nI_pos (by omega)) c61 | exact absurd c61 (nI_pos (by omega)))) (fun c61 => ?_)
    refine And.intro (fun c66 => ?_) (fun c66 => False.elim (by first | exact c66 (nI_pos' (by omega)) | exact absurd (nI_pos' (by omega)) c66 | exact absurd c66 (nI_pos' (by omega))))
    refine ⟨4, jc, A.ld (by decide) (show jc < 40 by omega) rfl, ?_⟩
    refine ⟨4, ja, A.ld (by decide) (show ja < 40 by omega) rfl, ?_⟩
    refine ⟨2, ja, A.ld (by decide) (show ja < 40 by omega) rfl, ?_⟩
    refine ⟨2, i, A.ld (by decide) hi40 hx, ?_⟩
    refine And.intro (fun c99 => ?_) (fun c99 => ?_)
    · rw [b2, sp, ck] at c99
      exact K113 _ _ (by rw [ct]; first | rw [if_neg c99] | rw [if_pos (Classical.not_not.mp c99), b2, sp]) (by rw [ca, upA_s, ct]; first | rw [if_neg c99] | rw [if_pos (Classical.not_not.mp c99), b2, sp])
    · rw [b2, sp, ck] at c99
      refine ⟨2, i, A.ld (by decide) hi40 hx, ?_⟩
      exact K113 _ _ (by rw [ct]; first | rw [if_neg c99] | rw [if_pos (Classical.not_not.mp c99), b2, sp]) (by rw [ca, upA_s, ct]; first | rw [if_neg c99] | rw [if_pos (Classical.not_not.mp c99), b2, sp])
  have K33 : ∀ y9 y10 y11 : Int32, y9 = nI f2 → y10 = nI q2 → y11 = nI e → Y w mL_erects θ0 (PL κ p l) (fun v κ' => v = some (.int (cutE σ i (nbA σ i) (nbB σ i))) ∧ ∃ l' nw', κ' = PL κ p l' ∧ nw ≤ nw' ∧ nw' ≤ nw + 2 ∧ QD l' (sEr σ i (nI i) (nbA σ i) (nbB σ i) y) nb nw' np) (fun _ _ => False) 0 0 33 [some (.ref (tM 0)), some (.ref (tM 2)), some (.ref (tM 4)), some (.ref (tM 6)), some (.ref (tM 7)), some (.ref (tM 8)), some (.ref (tM 9)), some (.int x), some (.int z), some (.int y9), some (.int y10), some (.int y11), none, none, none, none, none] [] (PL κ p l) := by
    rintro y9 y10 y11 rfl rfl rfl
    refine runL_go (κ := κ) (p := p) rkL_erects (fun p => Nat.beq p 33 || Nat.beq p 59 || Nat.beq p 113 || Nat.beq p 186 || Nat.beq p 222) 300 rfl ?_
    refine pL_erects_41 rfl rfl rfl (c_L_at A (e0 := e) rfl he) (fun v κ1 hq41 ho41 hk41 => ?_)
    obtain ⟨rfl, rfl⟩ := hq41
    refine runL_ok rkL_erects (fun p => Nat.beq p 33 || Nat.beq p 59 || Nat.beq p 113 || Nat.beq p 186 || Nat.beq p 222) 300 _ _ _ _ _ _ ?_
    refine pL_erects_54 rfl rfl rfl (c_L_at A (e0 := e) rfl he) (fun v κ1 hq54 ho54 hk54 => ?_)
    obtain ⟨rfl, rfl⟩ := hq54
    refine runL_ok rkL_erects (fun p => Nat.beq p 33 || Nat.beq p 59 || Nat.beq p 113 || Nat.beq p 186 || Nat.beq p 222) 300 _ _ _ _ _ _ ?_
    rw [atF_b CR he, atF_b CR he]
    rcases FJ (nI f2 - 1) e he with ha | ⟨ja, hja, eja, hja9⟩
    · rw [ha]
      rcases FJ (nI q2 + 1) e he with hc | ⟨jc, hjc, ejc, hjc9⟩
      · rw [hc]; exact Pnn (na.trans ha) (nc.trans hc)
      · rw [ejc]; exact Pny (na.trans ha) jc hjc (nc.trans ejc) hjc9
    · rw [eja]
      rcases FJ (nI q2 + 1) e he with hc | ⟨jc, hjc, ejc, hjc9⟩
      · rw [hc]; exact Pyn ja hja (na.trans eja) hja9 (nc.trans hc)
      · rw [ejc]; exact Pyy ja hja (na.trans eja) hja9 jc hjc (nc.trans ejc) hjc9
  refine runL_ok rkL_erects (fun p => Nat.beq p 33 || Nat.beq p 59 || Nat.beq p 113 || Nat.beq p 186 || Nat.beq p 222) 300 _ _ _ _ _ _ ?_
  refine ⟨0, i, A.ld (by decide) hi40 hx, ?_⟩
  refine And.intro (by decide) ?_
  refine ⟨0, i, A.ld (by decide) hi40 hx, ?_⟩
  refine And.intro (by decide) ?_
  refine And.intro (by decide) ?_
  refine ⟨0, i, A.ld (by decide) hi40 hx, ?_⟩
  refine And.intro (by decide) ?_
  refine And.intro (by decide) ?_
  exact K33 _ _ _ (by rw [ea]; exact eA_f hf hq he hs) (by rw [ea]; exact eA_g hf hq he hs) (by rw [ea]; exact eA_e hf hq he hs)

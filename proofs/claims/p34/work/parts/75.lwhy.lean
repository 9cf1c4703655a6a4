
/-! THE LAW'S ARRAYS AND THE STATE -/
def eA (f g e s : Nat) : Nat := f + 16 * g + 256 * e + 1024 * s
def eW (s d r f e b : Nat) : Nat := s + 4 * d + 8 * r + 32 * f + 512 * e + 2048 * b
section EA
variable {f g e s : Nat} (hf : f ≤ 11) (hg : g ≤ 11) (he : e ≤ 2) (hs : s ≤ 3)
theorem eA_lt (hf : f ≤ 11) (hg : g ≤ 11) (he : e ≤ 2) (hs : s ≤ 3) : eA f g e s < 2 ^ 31 := by unfold eA; omega
theorem eA_f (hf : f ≤ 11) (hg : g ≤ 11) (he : e ≤ 2) (hs : s ≤ 3) : nI (eA f g e s) - nI (eA f g e s) / 16 * 16 = nI f := by
  rw [show (16 : Int32) = nI 16 from rfl, pk_rem (eA_lt hf hg he hs) (by decide) (by decide)]; congr 1; unfold eA; omega
theorem eA_g (hf : f ≤ 11) (hg : g ≤ 11) (he : e ≤ 2) (hs : s ≤ 3) : nI (eA f g e s) / 16 - nI (eA f g e s) / 16 / 16 * 16 = nI g := by
  have := eA_lt hf hg he hs
  rw [show (16 : Int32) = nI 16 from rfl, pk_div this (by decide) (by decide), pk_rem (by omega) (by decide) (by decide)]; congr 1; unfold eA; omega
theorem eA_e (hf : f ≤ 11) (hg : g ≤ 11) (he : e ≤ 2) (hs : s ≤ 3) : nI (eA f g e s) / 256 - nI (eA f g e s) / 256 / 4 * 4 = nI e := by
  have := eA_lt hf hg he hs
  rw [show (256 : Int32) = nI 256 from rfl, show (4 : Int32) = nI 4 from rfl, pk_div this (by decide) (by decide), pk_rem (by omega) (by decide) (by decide)]; congr 1; unfold eA; omega
theorem eA_es (hf : f ≤ 11) (hg : g ≤ 11) (he : e ≤ 2) (hs : s ≤ 3) : nI (eA f g e s) / 256 = nI (e + 4 * s) := by
  have := eA_lt hf hg he hs
  rw [show (256 : Int32) = nI 256 from rfl, pk_div this (by decide) (by decide)]; congr 1; unfold eA; omega
theorem eA_s (hf : f ≤ 11) (hg : g ≤ 11) (he : e ≤ 2) (hs : s ≤ 3) : nI (eA f g e s) / 1024 = nI s := by
  have := eA_lt hf hg he hs
  rw [show (1024 : Int32) = nI 1024 from rfl, pk_div this (by decide) (by decide)]; congr 1; unfold eA; omega
theorem eA_r (hf : f ≤ 11) (hg : g ≤ 11) (he : e ≤ 2) (hs : s ≤ 3) : nI (eA f g e s) - nI (eA f g e s) / 1024 * 1024 = nI (eA f g e 0) := by
  have := eA_lt hf hg he hs
  rw [show (1024 : Int32) = nI 1024 from rfl, pk_rem this (by decide) (by decide)]; congr 1; unfold eA; omega
theorem eA_lo (hf : f ≤ 11) (hg : g ≤ 11) (he : e ≤ 2) (hs : s ≤ 3) : nI (eA f g e s) < 1024 ↔ s = 0 := by
  rw [show (1024 : Int32) = nI 1024 from rfl, nI_ltI (eA_lt hf hg he hs) (by decide)]; unfold eA; omega
theorem eA_lo' (hf : f ≤ 11) (hg : g ≤ 11) (he : e ≤ 2) (hs : s ≤ 3) : nI (eA f g e s) ≤ 1023 ↔ s = 0 := by
  rw [show (1023 : Int32) = nI 1023 from rfl, nI_leI (eA_lt hf hg he hs) (by decide)]; unfold eA; omega
theorem eA_hi (hf : f ≤ 11) (hg : g ≤ 11) (he : e ≤ 2) (hs : s ≤ 3) : nI (eA f g e s) ≤ 3071 ↔ s < 3 := by
  rw [show (3071 : Int32) = nI 3071 from rfl, nI_leI (eA_lt hf hg he hs) (by decide)]; unfold eA; omega
end EA
section EW
variable {s d r f e b : Nat}
theorem eW_lt (hs : s ≤ 2) (hd : d ≤ 1) (hr : r ≤ 2) (hf : f ≤ 11) (he : e ≤ 2) (hb : b ≤ 41) : eW s d r f e b < 2 ^ 31 := by unfold eW; omega
theorem eW_s (hs : s ≤ 2) (hd : d ≤ 1) (hr : r ≤ 2) (hf : f ≤ 11) (he : e ≤ 2) (hb : b ≤ 41) : nI (eW s d r f e b) - nI (eW s d r f e b) / 4 * 4 = nI s := by
  rw [show (4 : Int32) = nI 4 from rfl, pk_rem (eW_lt hs hd hr hf he hb) (by decide) (by decide)]; congr 1; unfold eW; omega
theorem eW_d (hs : s ≤ 2) (hd : d ≤ 1) (hr : r ≤ 2) (hf : f ≤ 11) (he : e ≤ 2) (hb : b ≤ 41) : nI (eW s d r f e b) / 4 - nI (eW s d r f e b) / 4 / 2 * 2 = nI d := by
  have := eW_lt hs hd hr hf he hb
  rw [show (4 : Int32) = nI 4 from rfl, show (2 : Int32) = nI 2 from rfl, pk_div this (by decide) (by decide), pk_rem (by omega) (by decide) (by decide)]; congr 1; unfold eW; omega
theorem eW_r (hs : s ≤ 2) (hd : d ≤ 1) (hr : r ≤ 2) (hf : f ≤ 11) (he : e ≤ 2) (hb : b ≤ 41) : nI (eW s d r f e b) / 8 - nI (eW s d r f e b) / 8 / 4 * 4 = nI r := by
  have := eW_lt hs hd hr hf he hb
  rw [show (8 : Int32) = nI 8 from rfl, show (4 : Int32) = nI 4 from rfl, pk_div this (by decide) (by decide), pk_rem (by omega) (by decide) (by decide)]; congr 1; unfold eW; omega
theorem eW_f (hs : s ≤ 2) (hd : d ≤ 1) (hr : r ≤ 2) (hf : f ≤ 11) (he : e ≤ 2) (hb : b ≤ 41) : nI (eW s d r f e b) / 32 - nI (eW s d r f e b) / 32 / 16 * 16 = nI f := by
  have := eW_lt hs hd hr hf he hb
  rw [show (32 : Int32) = nI 32 from rfl, show (16 : Int32) = nI 16 from rfl, pk_div this (by decide) (by decide), pk_rem (by omega) (by decide) (by decide)]; congr 1; unfold eW; omega
theorem eW_e (hs : s ≤ 2) (hd : d ≤ 1) (hr : r ≤ 2) (hf : f ≤ 11) (he : e ≤ 2) (hb : b ≤ 41) : nI (eW s d r f e b) / 512 - nI (eW s d r f e b) / 512 / 4 * 4 = nI e := by
  have := eW_lt hs hd hr hf he hb
  rw [show (512 : Int32) = nI 512 from rfl, show (4 : Int32) = nI 4 from rfl, pk_div this (by decide) (by decide), pk_rem (by omega) (by decide) (by decide)]; congr 1; unfold eW; omega
theorem eW_b (hs : s ≤ 2) (hd : d ≤ 1) (hr : r ≤ 2) (hf : f ≤ 11) (he : e ≤ 2) (hb : b ≤ 41) : nI (eW s d r f e b) / 2048 = nI b := by
  have := eW_lt hs hd hr hf he hb
  rw [show (2048 : Int32) = nI 2048 from rfl, pk_div this (by decide) (by decide)]; congr 1; unfold eW; omega
theorem eW_8 (hs : s ≤ 2) (hd : d ≤ 1) (hr : r ≤ 2) (hf : f ≤ 11) (he : e ≤ 2) (hb : b ≤ 41) : nI (eW s d r f e b) / 8 * 8 = nI (eW 0 0 r f e b) := by
  have := eW_lt hs hd hr hf he hb
  rw [show (8 : Int32) = nI 8 from rfl, pk_div this (by decide) (by decide), pk_mul]; congr 1; unfold eW; omega
end EW
/-- a block -/
def cB1 (l : LSt) (σ : MS) (i : Nat) : Prop := ∃ f g e s u : Nat, f ≤ 11 ∧ g ≤ 11 ∧ e ≤ 2 ∧ s ≤ 3 ∧ f ≤ g ∧ 1 ≤ u ∧ u ≤ 8 * (g + 1 - f) ∧ σ.2 10 i = nI f ∧ σ.2 11 i = nI g ∧ σ.2 12 i = nI e ∧ σ.2 9 i = nI s ∧ σ.2 15 i = nI u ∧ l 0 i = nI (eA f g e s)
def cB2 (l : LSt) (σ : MS) (i : Nat) : Prop := l 1 i = σ.2 13 i ∧ l 2 i = σ.2 14 i ∧ l 3 i = σ.2 15 i ∧ (σ.2 9 i = 2 → l 4 i = σ.2 16 i) ∧ l 5 i = σ.2 17 i
def cB (l : LSt) (σ : MS) (nb : Nat) : Prop := ∀ i, i < nb → cB1 l σ i ∧ cB2 l σ i
/-- a weld -/
def cW1 (x : Int32) (σ : MS) (nb k : Nat) : Prop := ∃ s d r f e b : Nat, s ≤ 2 ∧ d ≤ 1 ∧ r ≤ 2 ∧ f ≤ 11 ∧ e ≤ 2 ∧ b ≤ nb ∧ 1 ≤ f ∧ σ.2 19 k = nI s ∧ σ.2 20 k = nI d ∧ σ.2 21 k = nI r ∧ σ.2 22 k = nI f ∧ σ.2 23 k = nI e ∧ σ.2 24 k = nI b - 1 ∧ x = nI (eW s d r f e b)
def cW (l : LSt) (σ : MS) (nb nw : Nat) : Prop := ∀ k, k < nw → cW1 (l 6 k) σ nb k
/-- a room -/
def cR (l : LSt) (σ : MS) : Prop := ∀ c, c < 36 → l 7 c = σ.2 25 c ∧ cH1 (l 8 c) σ c
/-- numbers -/
def cG (l : LSt) (σ : MS) (nb nw np : Nat) : Prop := l 9 0 = σ.1 0 ∧ l 9 1 = σ.1 1 ∧ l 9 2 = σ.1 2 ∧ l 9 3 = σ.1 3 ∧ l 9 4 = σ.1 4 ∧ (∀ y, y < 4 → l 9 (5 + y) = σ.2 5 y) ∧ l 9 9 = σ.1 7 ∧ l 9 10 = nI nb ∧ l 9 11 = nI nw ∧ l 9 12 = nI np
def Cpl (l : LSt) (σ : MS) (nb nw np : Nat) : Prop := (nb ≤ 40 ∧ nw ≤ 60 ∧ np ≤ 10 ∧ σ.1 6 = 0) ∧ cB l σ nb ∧ cW l σ nb nw ∧ cR l σ ∧ cG l σ nb nw np
theorem atF_b {l : LSt} {σ : MS} (h : cR l σ) {f : Int32} {e : Nat} (he : e ≤ 2) : atF l f e = bAt σ f (nI e) := by
  unfold atF bAt
  by_cases c : 0 ≤ f ∧ f ≤ 11
  · rw [if_pos c, if_pos c]
    obtain ⟨j, hj, rfl⟩ := nI_of2 (M := 11) (n := 11) (by decide) (Int32.not_lt.mpr c.1) c.2
    rw [ix12, nI_clamp (by omega), nI_clamp (by omega)]
    exact (h _ (by omega)).1
  · rw [if_neg c, if_neg c]
theorem fl_ge {σ : MS} {nb : Nat} (hn : nb ≤ 60) (hX : fX σ nb) {f : Int32} {e : Nat} (he : e ≤ 2) : (bAt σ f (nI e) < 0 ↔ bAt σ f (nI e) = -1) ∧ (¬ bAt σ f (nI e) = -1 → ∃ j, j < nb ∧ bAt σ f (nI e) = nI j ∧ σ.2 9 j = 2) := by
  have key : bAt σ f (nI e) = -1 ∨ ∃ j, j < nb ∧ bAt σ f (nI e) = nI j ∧ σ.2 9 j = 2 := by
    unfold bAt
    by_cases c : 0 ≤ f ∧ f ≤ 11
    · rw [if_pos c]
      obtain ⟨j, hj, rfl⟩ := nI_of2 (M := 11) (n := 11) (by decide) (Int32.not_lt.mpr c.1) c.2
      rw [ix12, nI_clamp (by omega)]
      by_cases d : σ.2 25 (12 * e + j) = -1
      · exact Or.inl d
      · obtain ⟨q, h1, h2, h3, -⟩ := hX _ (by omega) d
        exact Or.inr ⟨q, h1, h2, h3⟩
    · rw [if_neg c]; exact Or.inl rfl
  rcases key with h | ⟨j, h1, h2, h3⟩
  · rw [h]
    exact ⟨⟨fun _ => rfl, fun _ => by decide⟩, fun z => absurd rfl z⟩
  · rw [h2]
    exact ⟨⟨fun z => absurd z (nI_pos (by omega)), fun z => absurd z (nI_mm (by omega))⟩, fun _ => ⟨j, h1, rfl, h3⟩⟩
theorem far_ok : ∀ f, f < 12 → ∀ g, g < 12 → f ≤ g → ∀ c, c < 12 → (if nI c - nI f < nI g - nI c then nI g - nI c else nI c - nI f) = mxx (dif (nI f) (nI c)) (dif (nI g) (nI c)) := by decide +kernel
theorem lug_ok {t : Int32} {u : Nat} (h0 : 0 ≤ t) (h1 : t ≤ 1000) (hu : u ≤ 96) : (t ≤ 12 * nI u ↔ ¬ 60 * nI u < 5 * t) := by
  obtain ⟨j, hj, rfl⟩ := nI_of2 (M := 1000) (n := 1000) (by decide) (Int32.not_lt.mpr h0) h1
  rw [show (12 : Int32) = nI 12 from rfl, show (60 : Int32) = nI 60 from rfl, show (5 : Int32) = nI 5 from rfl, pk_mul, pk_mul, pk_mul, nI_leI (by omega) (by omega), nI_ltI (by omega) (by omega)]
  omega

theorem rsn_p {σ : MS} {i : Nat} (h6 : σ.1 6 = 0) {r : Int32} (h : r = (if ¬ σ.2 9 i = 0 then 1 else if flN σ i = true then 2 else if brN σ i = true then 3 else 0)) : (0 < r → rsn σ i = r) ∧ (¬ 0 < r → rsn σ i = rsn2 σ i) := by
  subst h
  unfold rsn
  have h6' : ¬ ¬ σ.1 6 = 0 := fun z => z h6
  by_cases c : ¬ σ.2 9 i = 0
  · rw [if_pos c, if_pos (Or.inl c)]; exact ⟨fun _ => rfl, fun z => absurd (by decide) z⟩
  · have hO : ¬ (¬ σ.2 9 i = 0 ∨ ¬ σ.1 6 = 0) := fun z => z.elim c h6'
    rw [if_neg hO, if_neg c]
    by_cases c2 : flN σ i = true
    · rw [if_pos c2, if_pos c2]; exact ⟨fun _ => rfl, fun z => absurd (by decide) z⟩
    · rw [if_neg c2, if_neg c2]
      by_cases c3 : brN σ i = true
      · rw [if_pos c3, if_pos c3]; exact ⟨fun _ => rfl, fun z => absurd (by decide) z⟩
      · rw [if_neg c3, if_neg c3]; exact ⟨fun z => absurd z (by decide), fun _ => rfl⟩
set_option maxRecDepth 20000 in
theorem c_L_why {w : W0} {κ : AH} {p : Nat} {l : LSt} {x : Int32} {σ : MS} {i nb nw np : Nat} (A : AK κ) (I : IV σ nb nw np) (h6 : σ.1 6 = 0) (hb40 : nb ≤ 40) (CB : cB l σ nb) (CR : cR l σ) (h92 : l 9 2 = σ.1 2) (h93 : l 9 3 = σ.1 3) (hx : x = nI i) (hi : i < nb) : CY w yL_why mL_why [.ref (tM 0), .ref (tM 1), .ref (tM 2), .ref (tM 3), .ref (tM 4), .ref (tM 7), .ref (tM 9), .int x] (PL κ p l) (fun v κ' => v = some (.int (rsn σ i)) ∧ κ' = PL κ p l) := by
  refine CY_of mcL_why (Nat.le_of_ble_eq_true rfl) (cat1 rfl) (fun θ0 => ?_)
  have h60 : nb ≤ 60 := I.n8
  obtain ⟨f, q, e, s, u, hf, hq, he, hs, hfq, hu1, hu2, e10, e11, e12, e9, e15, ea⟩ := (CB i hi).1
  obtain ⟨b1, b2, b3, b4, b5⟩ := (CB i hi).2
  obtain ⟨hc0, hc11⟩ := I.2.2.2.2.2.2.2.1
  have ht : 0 ≤ σ.2 13 i ∧ σ.2 13 i ≤ 1000 := (I.bk i hi).2.1
  obtain ⟨c0, hc0, ec⟩ := nI_of2 (M := 11) (n := 11) (by decide) (Int32.not_lt.mpr hc0) hc11
  have AT : ∀ y : Int32, ∀ d, d ≤ 2 → atF l y d = bAt σ y (nI d) := fun y d hd => atF_b CR hd
  have FG : ∀ (y : Int32) (d : Nat), d ≤ 2 → (bAt σ y (nI d) < 0 ↔ bAt σ y (nI d) = -1) := fun y d hd => (fl_ge h60 I.fx hd).1
  have FJ : ∀ (y : Int32) (d : Nat), d ≤ 2 → ¬ bAt σ y (nI d) < 0 → ∃ j, j < nb ∧ bAt σ y (nI d) = nI j ∧ σ.2 9 j = 2 := fun y d hd hz => (fl_ge h60 I.fx hd).2 (fun z => hz ((fl_ge h60 I.fx hd).1.mpr z))
  have efl : flN σ i = anyF σ (nI e) f (q + 1 - f) := by unfold flN; rw [e10, e11, e12, nI_clamp (by omega), nI_clamp (by omega)]
  have ebr : brN σ i = (decide (0 < nI e) && anyB σ (nI e - 1) f (q + 1 - f)) := by unfold brN; rw [e10, e11, e12, nI_clamp (by omega), nI_clamp (by omega)]
  have efar : mxx (dif (nI f) (σ.1 2)) (dif (nI q) (σ.1 2)) = if σ.1 2 - nI f < nI q - σ.1 2 then nI q - σ.1 2 else σ.1 2 - nI f := by rw [ec]; exact (far_ok f (by omega) q (by omega) hfq c0 (by omega)).symm
  have ers : rsn2 σ i = if σ.1 3 - 5 * mxx (dif (nI f) (σ.1 2)) (dif (nI q) (σ.1 2)) < σ.2 13 i then 4 else if 60 * nI u < 5 * σ.2 13 i then 5 else if bAt σ (nI f - 1) (nI e) = -1 ∨ bAt σ (nI q + 1) (nI e) = -1 then 0 else if 60 < σ.2 14 i - spc σ (bAt σ (nI f - 1) (nI e)) (bAt σ (nI q + 1) (nI e)) ∨ σ.2 14 i - spc σ (bAt σ (nI f - 1) (nI e)) (bAt σ (nI q + 1) (nI e)) < -12 then 6 else 0 := by unfold rsn2; rw [e10, e11, e12, e15]
  have K308 : ∀ (y z r d r2 : Int32), rsn σ i = (if 60 < y ∨ y < -12 then 6 else 0) → Y w mL_why θ0 (PL κ p l) (fun v κ' => v = some (.int (rsn σ i)) ∧ κ' = PL κ p l) (fun _ _ => False) 0 0 308 [some (.ref (tM 0)), some (.ref (tM 1)), some (.ref (tM 2)), some (.ref (tM 3)), some (.ref (tM 4)), some (.ref (tM 7)), some (.ref (tM 9)), some (.int x), some (.int (nI f)), some (.int (nI q)), some (.int (nI e)), some (.int r), some (.int d), some (.int z), some (.int r2), none] [.int y] (PL κ p l) := by
    intro y z r d r2 hz
    refine runL_go (κ := κ) (p := p) rkL_why (fun p => Nat.beq p 50 || Nat.beq p 54 || Nat.beq p 96 || Nat.beq p 141 || Nat.beq p 175 || Nat.beq p 212 || Nat.beq p 308) 300 rfl ?_
    refine And.intro (fun c314 => ?_) (fun c314 => ?_)
    · skip
      refine And.intro ⟨Nat.le_of_ble_eq_true rfl, Nat.le_of_ble_eq_true rfl⟩ ?_
      first | exact ⟨by rw [hz, if_pos (Or.inl c314)], rfl⟩ | exact ⟨by rw [hz, if_pos (Or.inr (Int32.not_le.mp c321))], rfl⟩ | exact ⟨by rw [hz, if_neg (fun z => z.elim c314 (Int32.not_lt.mpr c321))], rfl⟩
    · skip
      refine And.intro (fun c321 => ?_) (fun c321 => ?_)
      · skip
        refine And.intro ⟨Nat.le_of_ble_eq_true rfl, Nat.le_of_ble_eq_true rfl⟩ ?_
        first | exact ⟨by rw [hz, if_pos (Or.inl c314)], rfl⟩ | exact ⟨by rw [hz, if_pos (Or.inr (Int32.not_le.mp c321))], rfl⟩ | exact ⟨by rw [hz, if_neg (fun z => z.elim c314 (Int32.not_lt.mpr c321))], rfl⟩
      · skip
        refine And.intro ⟨Nat.le_of_ble_eq_true rfl, Nat.le_of_ble_eq_true rfl⟩ ?_
        first | exact ⟨by rw [hz, if_pos (Or.inl c314)], rfl⟩ | exact ⟨by rw [hz, if_pos (Or.inr (Int32.not_le.mp c321))], rfl⟩ | exact ⟨by rw [hz, if_neg (fun z => z.elim c314 (Int32.not_lt.mpr c321))], rfl⟩
  have K212 : ∀ (r d : Int32), ((0 < r → rsn σ i = r) ∧ (¬ 0 < r → rsn σ i = rsn2 σ i)) → d = mxx (dif (nI f) (σ.1 2)) (dif (nI q) (σ.1 2)) → (0 < r ∨ σ.1 3 - 5 * d < σ.2 13 i ∨ 60 * nI u < 5 * σ.2 13 i) → Y w mL_why θ0 (PL κ p l) (fun v κ' => v = some (.int (rsn σ i)) ∧ κ' = PL κ p l) (fun _ _ => False) 0 0 212 [some (.ref (tM 0)), some (.ref (tM 1)), some (.ref (tM 2)), some (.ref (tM 3)), some (.ref (tM 4)), some (.ref (tM 7)), some (.ref (tM 9)), some (.int x), some (.int (nI f)), some (.int (nI q)), some (.int (nI e)), some (.int r), some (.int d), none, none, none] [] (PL κ p l) := by
    intro r d hrp hd h3
    refine runL_go (κ := κ) (p := p) rkL_why (fun p => Nat.beq p 50 || Nat.beq p 54 || Nat.beq p 96 || Nat.beq p 141 || Nat.beq p 175 || Nat.beq p 212 || Nat.beq p 308) 300 rfl ?_
    refine And.intro (fun c214 => ?_) (fun c214 => ?_)
    · skip
      refine ⟨1, i, A.ld (by decide) (show i < 40 by omega) hx, ?_⟩
      refine ⟨9, 3, A.ld (by decide) (by decide) rfl, ?_⟩
      refine And.intro (fun c235 => ?_) (fun c235 => ?_)
      · rw [b1, h93] at c235
        refine And.intro ⟨Nat.le_of_ble_eq_true rfl, Nat.le_of_ble_eq_true rfl⟩ ?_
        first | exact ⟨by rw [hrp.1 c214], rfl⟩ | exact ⟨by rw [hrp.1 (Int32.not_le.mp c214)], rfl⟩ | exact ⟨by rw [hrp.2 (Int32.not_lt.mpr c214), ers, if_pos (by rw [← hd]; exact Int32.not_le.mp c235)], rfl⟩ | exact ⟨by rw [hrp.2 (Int32.not_lt.mpr c214), ers, if_neg (by rw [← hd]; exact Int32.not_lt.mpr c235), if_pos (by rcases h3 with h | h | h; exact absurd h (Int32.not_lt.mpr c214); exact absurd h (Int32.not_lt.mpr c235); exact h)], rfl⟩
      · rw [b1, h93] at c235
        refine And.intro ⟨Nat.le_of_ble_eq_true rfl, Nat.le_of_ble_eq_true rfl⟩ ?_
        first | exact ⟨by rw [hrp.1 c214], rfl⟩ | exact ⟨by rw [hrp.1 (Int32.not_le.mp c214)], rfl⟩ | exact ⟨by rw [hrp.2 (Int32.not_lt.mpr c214), ers, if_pos (by rw [← hd]; exact Int32.not_le.mp c235)], rfl⟩ | exact ⟨by rw [hrp.2 (Int32.not_lt.mpr c214), ers, if_neg (by rw [← hd]; exact Int32.not_lt.mpr c235), if_pos (by rcases h3 with h | h | h; exact absurd h (Int32.not_lt.mpr c214); exact absurd h (Int32.not_lt.mpr c235); exact h)], rfl⟩
    · skip
      refine And.intro ⟨Nat.le_of_ble_eq_true rfl, Nat.le_of_ble_eq_true rfl⟩ ?_
      first | exact ⟨by rw [hrp.1 c214], rfl⟩ | exact ⟨by rw [hrp.1 (Int32.not_le.mp c214)], rfl⟩ | exact ⟨by rw [hrp.2 (Int32.not_lt.mpr c214), ers, if_pos (by rw [← hd]; exact Int32.not_le.mp c235)], rfl⟩ | exact ⟨by rw [hrp.2 (Int32.not_lt.mpr c214), ers, if_neg (by rw [← hd]; exact Int32.not_lt.mpr c235), if_pos (by rcases h3 with h | h | h; exact absurd h (Int32.not_lt.mpr c214); exact absurd h (Int32.not_lt.mpr c235); exact h)], rfl⟩
  have K175 : ∀ (r d : Int32) (z12 : Option Value), ((0 < r → rsn σ i = r) ∧ (¬ 0 < r → rsn σ i = rsn2 σ i)) → d = mxx (dif (nI f) (σ.1 2)) (dif (nI q) (σ.1 2)) → Y w mL_why θ0 (PL κ p l) (fun v κ' => v = some (.int (rsn σ i)) ∧ κ' = PL κ p l) (fun _ _ => False) 0 0 175 [some (.ref (tM 0)), some (.ref (tM 1)), some (.ref (tM 2)), some (.ref (tM 3)), some (.ref (tM 4)), some (.ref (tM 7)), some (.ref (tM 9)), some (.int x), some (.int (nI f)), some (.int (nI q)), some (.int (nI e)), some (.int r), z12, none, none, none] [.int d] (PL κ p l) := by
    intro r d z12 hrp hd
    refine runL_go (κ := κ) (p := p) rkL_why (fun p => Nat.beq p 50 || Nat.beq p 54 || Nat.beq p 96 || Nat.beq p 141 || Nat.beq p 175 || Nat.beq p 212 || Nat.beq p 308) 300 rfl ?_
    refine And.intro (fun c179 => ?_) (fun c179 => ?_)
    · skip
      exact K212 _ _ hrp hd (by first | exact Or.inl c179 | exact Or.inr (Or.inl c195) | exact Or.inr (Or.inr (Classical.not_not.mp c209)))
    · skip
      refine ⟨1, i, A.ld (by decide) (show i < 40 by omega) hx, ?_⟩
      refine ⟨9, 3, A.ld (by decide) (by decide) rfl, ?_⟩
      refine And.intro (fun c195 => ?_) (fun c195 => ?_)
      · rw [b1, h93] at c195
        exact K212 _ _ hrp hd (by first | exact Or.inl c179 | exact Or.inr (Or.inl c195) | exact Or.inr (Or.inr (Classical.not_not.mp c209)))
      · rw [b1, h93] at c195
        refine ⟨1, i, A.ld (by decide) (show i < 40 by omega) hx, ?_⟩
        refine ⟨3, i, A.ld (by decide) (show i < 40 by omega) hx, ?_⟩
        refine And.intro (fun c209 => ?_) (fun c209 => ?_)
        · rw [b1, b3, e15, lug_ok ht.1 ht.2 (by omega)] at c209
          refine pL_why_252 rfl rfl rfl (c_L_at A (e0 := e) rfl he) (fun v κ1 hq252 ho252 hk252 => ?_)
          obtain ⟨rfl, rfl⟩ := hq252
          refine runL_ok rkL_why (fun p => Nat.beq p 50 || Nat.beq p 54 || Nat.beq p 96 || Nat.beq p 141 || Nat.beq p 175 || Nat.beq p 212 || Nat.beq p 308) 300 _ _ _ _ _ _ ?_
          refine pL_why_265 rfl rfl rfl (c_L_at A (e0 := e) rfl he) (fun v κ1 hq265 ho265 hk265 => ?_)
          obtain ⟨rfl, rfl⟩ := hq265
          refine runL_ok rkL_why (fun p => Nat.beq p 50 || Nat.beq p 54 || Nat.beq p 96 || Nat.beq p 141 || Nat.beq p 175 || Nat.beq p 212 || Nat.beq p 308) 300 _ _ _ _ _ _ ?_
          refine And.intro (fun c272 => ?_) (fun c272 => ?_)
          · rw [AT _ _ he] at c272
            refine K308 _ _ _ _ _ ?_
            rw [hrp.2 c179, ers, if_neg (by rw [← hd]; exact c195), if_neg c209]
            first
            | (rw [if_pos (Or.inl ((FG _ _ he).mp c272)), if_neg (by decide)])
            | (rw [if_pos (Or.inr ((FG _ _ he).mp (Int32.not_le.mp c277))), if_neg (by decide)])
            | (rw [if_neg (fun z => z.elim (fun z => c272 ((FG _ _ he).mpr z)) (fun z => Int32.not_lt.mpr c277 ((FG _ _ he).mpr z)))]; rw [eja, ejb, b2, (CB jb hjb).2.2.2.2.1 hjb9, (CB ja hja).2.2.2.2.1 hja9, (CB ja hja).2.2.1]; unfold spc eOf; rw [nI_clamp (by omega), nI_clamp (by omega), show σ.2 14 i - (σ.2 16 jb - 8 - σ.2 16 ja - σ.2 14 ja) = σ.2 14 i - (σ.2 16 jb - 4 - (σ.2 16 ja + σ.2 14 ja) - 4) by grind])
          · rw [AT _ _ he] at c272
            refine And.intro (fun c277 => ?_) (fun c277 => ?_)
            · rw [AT _ _ he] at c277
              obtain ⟨ja, hja, eja, hja9⟩ := FJ _ _ he c272
              obtain ⟨jb, hjb, ejb, hjb9⟩ := FJ _ _ he (Int32.not_lt.mpr c277)
              refine ⟨2, i, A.ld (by decide) (show i < 40 by omega) hx, ?_⟩
              refine ⟨4, jb, A.ld (by decide) (show jb < 40 by omega) ((AT _ _ he).trans ejb), ?_⟩
              refine ⟨4, ja, A.ld (by decide) (show ja < 40 by omega) ((AT _ _ he).trans eja), ?_⟩
              refine ⟨2, ja, A.ld (by decide) (show ja < 40 by omega) ((AT _ _ he).trans eja), ?_⟩
              refine K308 _ _ _ _ _ ?_
              rw [hrp.2 c179, ers, if_neg (by rw [← hd]; exact c195), if_neg c209]
              first
              | (rw [if_pos (Or.inl ((FG _ _ he).mp c272)), if_neg (by decide)])
              | (rw [if_pos (Or.inr ((FG _ _ he).mp (Int32.not_le.mp c277))), if_neg (by decide)])
              | (rw [if_neg (fun z => z.elim (fun z => c272 ((FG _ _ he).mpr z)) (fun z => Int32.not_lt.mpr c277 ((FG _ _ he).mpr z)))]; rw [eja, ejb, b2, (CB jb hjb).2.2.2.2.1 hjb9, (CB ja hja).2.2.2.2.1 hja9, (CB ja hja).2.2.1]; unfold spc eOf; rw [nI_clamp (by omega), nI_clamp (by omega), show σ.2 14 i - (σ.2 16 jb - 8 - σ.2 16 ja - σ.2 14 ja) = σ.2 14 i - (σ.2 16 jb - 4 - (σ.2 16 ja + σ.2 14 ja) - 4) by grind])
            · rw [AT _ _ he] at c277
              refine K308 _ _ _ _ _ ?_
              rw [hrp.2 c179, ers, if_neg (by rw [← hd]; exact c195), if_neg c209]
              first
              | (rw [if_pos (Or.inl ((FG _ _ he).mp c272)), if_neg (by decide)])
              | (rw [if_pos (Or.inr ((FG _ _ he).mp (Int32.not_le.mp c277))), if_neg (by decide)])
              | (rw [if_neg (fun z => z.elim (fun z => c272 ((FG _ _ he).mpr z)) (fun z => Int32.not_lt.mpr c277 ((FG _ _ he).mpr z)))]; rw [eja, ejb, b2, (CB jb hjb).2.2.2.2.1 hjb9, (CB ja hja).2.2.2.2.1 hja9, (CB ja hja).2.2.1]; unfold spc eOf; rw [nI_clamp (by omega), nI_clamp (by omega), show σ.2 14 i - (σ.2 16 jb - 8 - σ.2 16 ja - σ.2 14 ja) = σ.2 14 i - (σ.2 16 jb - 4 - (σ.2 16 ja + σ.2 14 ja) - 4) by grind])
        · rw [b1, b3, e15, lug_ok ht.1 ht.2 (by omega)] at c209
          exact K212 _ _ hrp hd (by first | exact Or.inl c179 | exact Or.inr (Or.inl c195) | exact Or.inr (Or.inr (Classical.not_not.mp c209)))
  have K141 : ∀ (r : Int32) (z12 : Option Value), r = (if ¬ nI s = 0 then 1 else if anyF σ (nI e) f (q + 1 - f) = true then 2 else if (decide (0 < nI e) && anyB σ (nI e - 1) f (q + 1 - f)) = true then 3 else 0) → Y w mL_why θ0 (PL κ p l) (fun v κ' => v = some (.int (rsn σ i)) ∧ κ' = PL κ p l) (fun _ _ => False) 0 0 141 [some (.ref (tM 0)), some (.ref (tM 1)), some (.ref (tM 2)), some (.ref (tM 3)), some (.ref (tM 4)), some (.ref (tM 7)), some (.ref (tM 9)), some (.int x), some (.int (nI f)), some (.int (nI q)), some (.int (nI e)), some (.int r), z12, none, none, none] [] (PL κ p l) := by
    intro r z12 hr3
    have hrp := rsn_p (i := i) h6 (r := r) (by rw [hr3, e9, efl, ebr])
    refine runL_go (κ := κ) (p := p) rkL_why (fun p => Nat.beq p 50 || Nat.beq p 54 || Nat.beq p 96 || Nat.beq p 141 || Nat.beq p 175 || Nat.beq p 212 || Nat.beq p 308) 300 rfl ?_
    refine ⟨9, 2, A.ld (by decide) (by decide) rfl, ?_⟩
    refine ⟨9, 2, A.ld (by decide) (by decide) rfl, ?_⟩
    refine And.intro (fun c155 => ?_) (fun c155 => ?_)
    · rw [h92] at c155
      refine ⟨9, 2, A.ld (by decide) (by decide) rfl, ?_⟩
      refine K175 _ _ _ hrp ?_
      rw [h92, efar]
      first | rw [if_neg (Int32.not_lt.mpr c155)] | rw [if_pos (Int32.not_le.mp c155)]
    · rw [h92] at c155
      refine ⟨9, 2, A.ld (by decide) (by decide) rfl, ?_⟩
      refine K175 _ _ _ hrp ?_
      rw [h92, efar]
      first | rw [if_neg (Int32.not_lt.mpr c155)] | rw [if_pos (Int32.not_le.mp c155)]
  have P96 : ∀ r : Int32, r = (if ¬ (if ¬ nI s = 0 then 1 else if anyF σ (nI e) f (q + 1 - f) = true then 2 else 0 : Int32) = 0 then (if ¬ nI s = 0 then 1 else if anyF σ (nI e) f (q + 1 - f) = true then 2 else 0 : Int32) else if (decide (0 < nI e) && anyB σ (nI e - 1) f (q + 1 - f)) = true then 3 else 0) → r = (if ¬ nI s = 0 then 1 else if anyF σ (nI e) f (q + 1 - f) = true then 2 else if (decide (0 < nI e) && anyB σ (nI e - 1) f (q + 1 - f)) = true then 3 else 0) := by
    intro r hr
    rw [hr]
    by_cases h1 : ¬ nI s = 0
    · rw [if_pos h1, if_pos (by decide), if_pos h1]
    · rw [if_neg h1, if_neg h1]
      by_cases h2 : anyF σ (nI e) f (q + 1 - f) = true
      · rw [if_pos h2, if_pos (by decide), if_pos h2]
      · rw [if_neg h2, if_neg (fun z => z rfl), if_neg h2]
  have K96 : ∀ n k : Nat, n + k = q + 1 → f ≤ k → ∀ r : Int32, r = (if ¬ (if ¬ nI s = 0 then 1 else if anyF σ (nI e) f (q + 1 - f) = true then 2 else 0 : Int32) = 0 then (if ¬ nI s = 0 then 1 else if anyF σ (nI e) f (q + 1 - f) = true then 2 else 0 : Int32) else if (decide (0 < nI e) && anyB σ (nI e - 1) f (k - f)) = true then 3 else 0) → Y w mL_why θ0 (PL κ p l) (fun v κ' => v = some (.int (rsn σ i)) ∧ κ' = PL κ p l) (fun _ _ => False) 0 0 96 [some (.ref (tM 0)), some (.ref (tM 1)), some (.ref (tM 2)), some (.ref (tM 3)), some (.ref (tM 4)), some (.ref (tM 7)), some (.ref (tM 9)), some (.int x), some (.int (nI f)), some (.int (nI q)), some (.int (nI e)), some (.int r), some (.int (nI k)), none, none, none] [] (PL κ p l) := by
    intro n
    induction n with
    | zero =>
      intro k hk hfk r hr
      refine runL_go (κ := κ) (p := p) rkL_why (fun p => Nat.beq p 50 || Nat.beq p 54 || Nat.beq p 96 || Nat.beq p 141 || Nat.beq p 175 || Nat.beq p 212 || Nat.beq p 308) 300 rfl ?_
      have hkq : k = q + 1 := by omega
      subst hkq
      refine And.intro (fun c98 => K141 r _ (P96 r hr)) (fun c => absurd (nI_lt (by omega) (by omega)) c)
    | succ n ih =>
      intro k hk hfk r hr
      refine runL_go (κ := κ) (p := p) rkL_why (fun p => Nat.beq p 50 || Nat.beq p 54 || Nat.beq p 96 || Nat.beq p 141 || Nat.beq p 175 || Nat.beq p 212 || Nat.beq p 308) 300 rfl ?_
      refine And.intro (fun c => absurd ((nI_ltI (by omega) (by omega)).mp c) (by omega)) (fun c98 => ?_)
      refine And.intro (fun c103 => ?_) (fun c103 => ?_)
      · refine K141 r _ (P96 r ?_)
        have e0 : e = 0 := by
          have := mt (fun h => nI_nle (n := e) (Nat.pos_of_ne_zero h) (by omega)) (fun z => z c103)
          omega
        subst e0
        rw [hr]
        rfl
      · have he1 : 1 ≤ e := Nat.pos_of_ne_zero (fun z => c103 (by rw [z]; decide))
        have hdp : decide (0 < nI e) = true := decide_eq_true (nI_lt he1 (by omega) : nI 0 < nI e)
        rw [hdp, Bool.true_and] at hr
        refine And.intro (fun c108 => ?_) (fun c108 => ?_)
        · have := ih (k + 1) (by omega) (by omega) r (by
            rw [hdp, Bool.true_and, hr]
            by_cases h1 : ¬ (if ¬ nI s = 0 then 1 else if anyF σ (nI e) f (q + 1 - f) = true then 2 else 0 : Int32) = 0
            · rw [if_pos h1, if_pos h1]
            · rw [if_neg h1, if_neg h1, show k + 1 - f = k - f + 1 by omega, anyB_succ]
              by_cases h2 : anyB σ (nI e - 1) f (k - f) = true
              · rw [if_pos h2, h2, Bool.true_or, if_pos rfl]
              · exact absurd (by rw [hr, if_neg h1, if_neg h2]) c108)
          rw [← nI_1 k] at this
          exact this
        · refine pL_why_121 rfl rfl rfl (c_L_at A (e0 := e - 1) (nI_s1 he1) (by omega)) (fun v κ1 hq ho hk => ?_)
          obtain ⟨rfl, rfl⟩ := hq
          refine runL_ok rkL_why (fun p => Nat.beq p 50 || Nat.beq p 54 || Nat.beq p 96 || Nat.beq p 141 || Nat.beq p 175 || Nat.beq p 212 || Nat.beq p 308) 300 _ _ _ _ _ _ ?_
          have hr0 := c108
          rw [hr] at hr0
          have h1 : ¬ ¬ (if ¬ nI s = 0 then 1 else if anyF σ (nI e) f (q + 1 - f) = true then 2 else 0 : Int32) = 0 := fun z => by rw [if_pos z] at hr0; exact z hr0
          rw [if_neg h1] at hr hr0
          have h2 : ¬ anyB σ (nI e - 1) f (k - f) = true := fun z => by rw [if_pos z] at hr0; exact absurd hr0 (by decide)
          rw [if_neg h2] at hr
          have hfk2 : f + (k - f) = k := by omega
          refine And.intro (fun c124 => ?_) (fun c124 => ?_)
          · rw [AT _ _ (by omega)] at c124
            have := ih (k + 1) (by omega) (by omega) r (by rw [hdp, Bool.true_and, if_neg h1, show k + 1 - f = k - f + 1 by omega, anyB_succ, hfk2, nI_s1 he1, decide_eq_false (fun z => Int32.not_lt.mpr c124 ((FG _ _ (by omega)).mpr z)), Bool.or_false, ← nI_s1 he1, if_neg h2, hr])
            rw [← nI_1 k] at this
            exact this
          · rw [AT _ _ (by omega)] at c124
            have := ih (k + 1) (by omega) (by omega) 3 (by rw [hdp, Bool.true_and, if_neg h1, show k + 1 - f = k - f + 1 by omega, anyB_succ, hfk2, nI_s1 he1, decide_eq_true ((FG _ _ (by omega)).mp (by first | exact c124 | exact Int32.not_le.mp c124)), Bool.or_true, if_pos rfl])
            rw [← nI_1 k] at this
            exact this
  have K54 : ∀ n k : Nat, n + k = q + 1 → f ≤ k → ∀ r : Int32, r = (if ¬ nI s = 0 then 1 else if anyF σ (nI e) f (k - f) = true then 2 else 0) → Y w mL_why θ0 (PL κ p l) (fun v κ' => v = some (.int (rsn σ i)) ∧ κ' = PL κ p l) (fun _ _ => False) 0 0 54 [some (.ref (tM 0)), some (.ref (tM 1)), some (.ref (tM 2)), some (.ref (tM 3)), some (.ref (tM 4)), some (.ref (tM 7)), some (.ref (tM 9)), some (.int x), some (.int (nI f)), some (.int (nI q)), some (.int (nI e)), some (.int r), some (.int (nI k)), none, none, none] [] (PL κ p l) := by
    intro n
    induction n with
    | zero =>
      intro k hk hfk r hr
      refine runL_go (κ := κ) (p := p) rkL_why (fun p => Nat.beq p 50 || Nat.beq p 54 || Nat.beq p 96 || Nat.beq p 141 || Nat.beq p 175 || Nat.beq p 212 || Nat.beq p 308) 300 rfl ?_
      have hkq : k = q + 1 := by omega
      subst hkq
      have e9 := K96 (q + 1 - f) f (by omega) (Nat.le_refl _) r (by
        rw [Nat.sub_self, show (decide (0 < nI e) && anyB σ (nI e - 1) f 0) = false from Bool.and_false _, if_neg (show ¬ (false = true) by decide)]
        by_cases h : ¬ (if ¬ nI s = 0 then 1 else if anyF σ (nI e) f (q + 1 - f) = true then 2 else 0 : Int32) = 0
        · rw [if_pos h]; exact hr
        · rw [if_neg h]; exact hr.trans (Classical.not_not.mp h))
      exact And.intro (fun c58 => e9) (fun c => absurd (nI_lt (by omega) (by omega)) c)
    | succ n ih =>
      intro k hk hfk r hr
      refine runL_go (κ := κ) (p := p) rkL_why (fun p => Nat.beq p 50 || Nat.beq p 54 || Nat.beq p 96 || Nat.beq p 141 || Nat.beq p 175 || Nat.beq p 212 || Nat.beq p 308) 300 rfl ?_
      refine And.intro (fun c => absurd ((nI_ltI (by omega) (by omega)).mp c) (by omega)) (fun c58 => ?_)
      refine And.intro (fun c63 => ?_) (fun c63 => ?_)
      · have := ih (k + 1) (by omega) (by omega) r (by
          rw [hr]
          by_cases h1 : ¬ nI s = 0
          · rw [if_pos h1, if_pos h1]
          · rw [if_neg h1, if_neg h1, show k + 1 - f = k - f + 1 by omega, anyF_succ]
            by_cases h2 : anyF σ (nI e) f (k - f) = true
            · rw [if_pos h2, h2, Bool.true_or, if_pos rfl]
            · exact absurd (by rw [hr, if_neg h1, if_neg h2]) c63)
        rw [← nI_1 k] at this
        exact this
      · refine pL_why_72 rfl rfl rfl (c_L_at A (e0 := e) rfl he) (fun v κ1 hq ho hk => ?_)
        obtain ⟨rfl, rfl⟩ := hq
        refine runL_ok rkL_why (fun p => Nat.beq p 50 || Nat.beq p 54 || Nat.beq p 96 || Nat.beq p 141 || Nat.beq p 175 || Nat.beq p 212 || Nat.beq p 308) 300 _ _ _ _ _ _ ?_
        have hr0 := c63
        rw [hr] at hr0
        have h1 : ¬ ¬ nI s = 0 := fun z => by rw [if_pos z] at hr0; exact absurd hr0 (by decide)
        rw [if_neg h1] at hr hr0
        have h2 : ¬ anyF σ (nI e) f (k - f) = true := fun z => by rw [if_pos z] at hr0; exact absurd hr0 (by decide)
        rw [if_neg h2] at hr
        have hfk2 : f + (k - f) = k := by omega
        refine And.intro (fun c75 => ?_) (fun c75 => ?_)
        · rw [AT _ _ he] at c75
          have := ih (k + 1) (by omega) (by omega) r (by rw [if_neg h1, show k + 1 - f = k - f + 1 by omega, anyF_succ, hfk2, decide_eq_false (fun z => z ((FG _ _ he).mp c75)), Bool.or_false, if_neg h2, hr])
          rw [← nI_1 k] at this
          exact this
        · rw [AT _ _ he] at c75
          have := ih (k + 1) (by omega) (by omega) 2 (by rw [if_neg h1, show k + 1 - f = k - f + 1 by omega, anyF_succ, hfk2, decide_eq_true (show ¬ bAt σ (nI k) (nI e) = -1 from fun z => c75 ((FG _ _ he).mpr z)), Bool.or_true, if_pos rfl])
          rw [← nI_1 k] at this
          exact this
  have K50 : ∀ y8 y9 y10 r : Int32, y8 = nI f → y9 = nI q → y10 = nI e → r = (if ¬ nI s = 0 then 1 else 0) → Y w mL_why θ0 (PL κ p l) (fun v κ' => v = some (.int (rsn σ i)) ∧ κ' = PL κ p l) (fun _ _ => False) 0 0 50 [some (.ref (tM 0)), some (.ref (tM 1)), some (.ref (tM 2)), some (.ref (tM 3)), some (.ref (tM 4)), some (.ref (tM 7)), some (.ref (tM 9)), some (.int x), some (.int y8), some (.int y9), some (.int y10), some (.int r), none, none, none, none] [] (PL κ p l) := by
    rintro y8 y9 y10 r rfl rfl rfl hr
    refine runL_go (κ := κ) (p := p) rkL_why (fun p => Nat.beq p 50 || Nat.beq p 54 || Nat.beq p 96 || Nat.beq p 141 || Nat.beq p 175 || Nat.beq p 212 || Nat.beq p 308) 300 rfl ?_
    exact K54 (q + 1 - f) f (by omega) (Nat.le_refl _) r (by rw [hr, Nat.sub_self]; rfl)
  refine runL_ok rkL_why (fun p => Nat.beq p 50 || Nat.beq p 54 || Nat.beq p 96 || Nat.beq p 141 || Nat.beq p 175 || Nat.beq p 212 || Nat.beq p 308) 300 _ _ _ _ _ _ ?_
  refine ⟨0, i, A.ld (by decide) (show i < 40 by omega) hx, ?_⟩
  refine And.intro (by decide) ?_
  refine ⟨0, i, A.ld (by decide) (show i < 40 by omega) hx, ?_⟩
  refine And.intro (by decide) ?_
  refine And.intro (by decide) ?_
  refine ⟨0, i, A.ld (by decide) (show i < 40 by omega) hx, ?_⟩
  refine And.intro (by decide) ?_
  refine And.intro (by decide) ?_
  refine ⟨0, i, A.ld (by decide) (show i < 40 by omega) hx, ?_⟩
  refine And.intro (fun c40 => ?_) (fun c40 => ?_)
  · rw [ea, eA_lo' hf hq he hs] at c40
    exact K50 _ _ _ _ (by rw [ea]; exact eA_f hf hq he hs) (by rw [ea]; exact eA_g hf hq he hs) (by rw [ea]; exact eA_e hf hq he hs) (by first | exact (if_neg (show ¬ ¬ nI s = 0 from fun z => z (by rw [c40]; rfl))).symm | exact (if_pos (show ¬ nI s = 0 from fun z => c40 ((nI_eq (b := 0) (by omega) (by decide)).mp z))).symm)
  · rw [ea, eA_lo' hf hq he hs] at c40
    exact K50 _ _ _ _ (by rw [ea]; exact eA_f hf hq he hs) (by rw [ea]; exact eA_g hf hq he hs) (by rw [ea]; exact eA_e hf hq he hs) (by first | exact (if_neg (show ¬ ¬ nI s = 0 from fun z => z (by rw [c40]; rfl))).symm | exact (if_pos (show ¬ nI s = 0 from fun z => c40 ((nI_eq (b := 0) (by omega) (by decide)).mp z))).symm)


/-! THE MODEL'S CONTRACTS, 9: erect -/
def cnx (x : Int32) : Int32 := if x = -1 then 0 else 1
def nbA (σ : MS) (i : Nat) : Int32 := bAt σ (σ.2 10 i - 1) (σ.2 12 i)
def nbB (σ : MS) (i : Nat) : Int32 := bAt σ (σ.2 11 i + 1) (σ.2 12 i)
def kEr (σ : MS) (b y : Int32) : Int32 := if isBlk σ b ∧ isWdr y then if ¬ 0 < rsn σ b.toNatClampNeg ∧ σ.1 18 + (cnx (nbA σ b.toNatClampNeg) + cnx (nbB σ b.toNatClampNeg)) ≤ 100 then 0 else 2 else 1
def cutE (σ : MS) (i : Nat) (a c : Int32) : Int32 := if ¬ a = -1 ∧ ¬ c = -1 then (if 0 < σ.2 14 i - spc σ a c then σ.2 14 i - spc σ a c else 0) else 0
def erA (σ : MS) (i : Nat) (a c : Int32) : MS := if ¬ a = -1 ∧ ¬ c = -1 then upA σ 14 i (σ.2 14 i - cutE σ i a c) else σ
def begE (σ : MS) (i : Nat) (a c : Int32) : Int32 := if ¬ a = -1 then eOf σ a + 4 else if ¬ c = -1 then σ.2 16 c.toNatClampNeg - 4 - σ.2 14 i else 1000 * σ.2 10 i
def erB (σ : MS) (i : Nat) (a c : Int32) : MS := upA (upA (erA σ i a c) 16 i (begE (erA σ i a c) i a c)) 9 i 2
def flS (σ : MS) (v b : Int32) (lo : Nat) : Nat → MS
  | 0 => σ
  | n + 1 => upS (upA (flS σ v b lo n) 25 (12 * v + nI (lo + n)).toNatClampNeg b) 7 ((flS σ v b lo n).1 7 + 100)
def erC (σ : MS) (i : Nat) (b a c : Int32) : MS := flS (erB σ i a c) (σ.2 12 i) b (σ.2 10 i).toNatClampNeg ((σ.2 11 i).toNatClampNeg + 1 - (σ.2 10 i).toNatClampNeg)
def erD (σ : MS) (f v a : Int32) (y : Nat) : MS := if ¬ a = -1 then sSpo (sMak σ (-1) f v y) f v else σ
def sEr (σ : MS) (i : Nat) (b a c : Int32) (y : Nat) : MS := erD (erD (erC σ i b a c) (σ.2 10 i) (σ.2 12 i) a y) (σ.2 11 i + 1) (σ.2 12 i) c y
def mEr (σ : MS) (b y : Int32) : Int32 × MS := if kEr σ b y = 0 then (cutE σ b.toNatClampNeg (nbA σ b.toNatClampNeg) (nbB σ b.toNatClampNeg), sEr (upS σ 34 0) b.toNatClampNeg b (nbA σ b.toNatClampNeg) (nbB σ b.toNatClampNeg) y.toNatClampNeg) else (0, upS σ 34 (kEr σ b y))
theorem flS_row {σ : MS} {v b : Int32} {lo k : Nat} (hk : k ≠ 25) : ∀ n, (flS σ v b lo n).2 k = σ.2 k
  | 0 => rfl
  | n + 1 => by
    have ih := flS_row (σ := σ) (v := v) (b := b) (lo := lo) hk n
    funext i
    show (if k = 25 ∧ i = _ then b else (flS σ v b lo n).2 k i) = _
    rw [if_neg (fun z => hk z.1), ih]
theorem flS_num {σ : MS} {v b : Int32} {lo k : Nat} (hk : k ≠ 7) : ∀ n, (flS σ v b lo n).1 k = σ.1 k
  | 0 => rfl
  | n + 1 => by
    have ih := flS_num (σ := σ) (v := v) (b := b) (lo := lo) hk n
    show (if k = 7 then _ else (flS σ v b lo n).1 k) = _
    rw [if_neg hk, ih]
theorem erA_row {σ : MS} {i k : Nat} {a c : Int32} (hk : k ≠ 14) : (erA σ i a c).2 k = σ.2 k := by
  unfold erA
  split
  · funext j
    show (if k = 14 ∧ j = i then _ else σ.2 k j) = _
    rw [if_neg (fun z => hk z.1)]
  · rfl
theorem erA_num {σ : MS} {i : Nat} {a c : Int32} : (erA σ i a c).1 = σ.1 := by
  unfold erA
  split <;> rfl
theorem erB_row {σ : MS} {i k : Nat} {a c : Int32} (h1 : k ≠ 14) (h2 : k ≠ 16) (h3 : k ≠ 9) : (erB σ i a c).2 k = σ.2 k := by
  funext j
  show (if k = 9 ∧ j = i then _ else if k = 16 ∧ j = i then _ else (erA σ i a c).2 k j) = _
  rw [if_neg (fun z => h3 z.1), if_neg (fun z => h2 z.1), erA_row h1]
theorem erB_num {σ : MS} {i : Nat} {a c : Int32} : (erB σ i a c).1 = σ.1 := erA_num
theorem erC_row {σ : MS} {i k : Nat} {b a c : Int32} (h1 : k ≠ 14) (h2 : k ≠ 16) (h3 : k ≠ 9) (h4 : k ≠ 25) : (erC σ i b a c).2 k = σ.2 k := by
  unfold erC
  rw [flS_row h4, erB_row h1 h2 h3]
theorem erC_num {σ : MS} {i k : Nat} {b a c : Int32} (h : k ≠ 7) : (erC σ i b a c).1 k = σ.1 k := by
  unfold erC
  rw [flS_num h, erB_num]
theorem sDrw_row {σ : MS} {j k y : Nat} (h1 : k ≠ 19) (h2 : k ≠ 20) : (sDrw σ j y).2 k = σ.2 k := by
  funext i
  show (if k = 19 ∧ i = j then _ else if k = 20 ∧ i = j then _ else σ.2 k i) = _
  rw [if_neg (fun z => h1 z.1), if_neg (fun z => h2 z.1)]
theorem sMak_row {σ : MS} {b f v : Int32} {k y : Nat} (h1 : k < 19 ∨ 24 < k) : (sMak σ b f v y).2 k = σ.2 k := by
  unfold sMak
  rw [sDrw_row (by omega) (by omega)]
  funext i
  show (if k = 24 ∧ i = _ then _ else if k = 23 ∧ i = _ then _ else if k = 22 ∧ i = _ then _ else if k = 21 ∧ i = _ then _ else σ.2 k i) = _
  rw [if_neg (fun z => by have := z.1; omega), if_neg (fun z => by have := z.1; omega), if_neg (fun z => by have := z.1; omega), if_neg (fun z => by have := z.1; omega)]
theorem sMak_num {σ : MS} {b f v : Int32} {k y : Nat} (h1 : k ≠ 4) (h2 : k ≠ 7) (h3 : k ≠ 18) : (sMak σ b f v y).1 k = σ.1 k := by
  show (if k = 4 then _ else if k = 7 then _ else if k = 18 then _ else σ.1 k) = _
  rw [if_neg h1, if_neg h2, if_neg h3]
theorem sMak_18 {σ : MS} {b f v : Int32} {y : Nat} : (sMak σ b f v y).1 18 = σ.1 18 + 1 := rfl
theorem erD_row {σ : MS} {f v a : Int32} {k y : Nat} (h1 : k < 19 ∨ 24 < k) (h2 : k ≠ 26) : (erD σ f v a y).2 k = σ.2 k := by
  unfold erD
  split
  · funext i
    show (if k = 26 ∧ i = _ then _ else if k = 26 ∧ i = _ then _ else (sMak σ (-1) f v y).2 k i) = _
    rw [if_neg (fun z => h2 z.1), if_neg (fun z => h2 z.1), sMak_row h1]
  · rfl
theorem erD_18 {σ : MS} {f v a : Int32} {y : Nat} : (erD σ f v a y).1 18 = σ.1 18 + cnx a := by
  unfold erD cnx
  by_cases h : a = -1
  · rw [if_neg (fun z => z h), if_pos h, Int32.add_zero]
  · rw [if_pos h, if_neg h]; rfl
theorem cutE_p {σ : MS} {i : Nat} {a c : Int32} (h1 : ¬ a = -1) (h2 : ¬ c = -1) (h : ¬ σ.2 14 i - spc σ a c ≤ 0) : σ.2 14 i - spc σ a c = cutE σ i a c := by
  unfold cutE
  rw [if_pos ⟨h1, h2⟩, if_pos (Int32.not_le.mp h)]
theorem cutE_n {σ : MS} {i : Nat} {a c : Int32} (h1 : ¬ a = -1) (h2 : ¬ c = -1) (h : σ.2 14 i - spc σ a c ≤ 0) : 0 = cutE σ i a c := by
  unfold cutE
  rw [if_pos ⟨h1, h2⟩, if_neg (fun z => Int32.not_le.mpr z h)]
theorem wl_in {nw : Nat} {p q : Int32} (hnw : nw ≤ 100) (hp : p = 0 ∨ p = 1) (hq : q = 0 ∨ q = 1) (h : nI nw + (p + q) ≤ 100) : (p = 1 → vp_in (nI nw) 100) ∧ (q = 1 → vp_in (nI nw + p) 100) := by
  have e2 : nI nw + 1 + 1 = nI (nw + 1 + 1) := by rw [nI_1, nI_1]
  rcases hp with rfl | rfl <;> rcases hq with rfl | rfl
  · exact ⟨fun z => absurd z (by decide), fun z => absurd z (by decide)⟩
  · rw [show (0 : Int32) + 1 = 1 from rfl, nI_1] at h
    have := (nI_leI (b := 100) (by omega) (by decide)).mp h
    exact ⟨fun z => absurd z (by decide), fun _ => by rw [Int32.add_zero]; exact vp_in_nI (N := 100) (by omega) (by decide)⟩
  · rw [show (1 : Int32) + 0 = 1 from rfl, nI_1] at h
    have := (nI_leI (b := 100) (by omega) (by decide)).mp h
    exact ⟨fun _ => vp_in_nI (N := 100) (by omega) (by decide), fun z => absurd z (by decide)⟩
  · rw [← Int32.add_assoc, e2] at h
    have := (nI_leI (b := 100) (by omega) (by decide)).mp h
    exact ⟨fun _ => vp_in_nI (N := 100) (by omega) (by decide), fun _ => by rw [nI_1]; exact vp_in_nI (N := 100) (by omega) (by decide)⟩
theorem f_1 : ∀ i : Nat, i < 12 → 0 ≤ nI i - 1 → 1 ≤ nI i := by decide
theorem l_1 : ∀ i : Nat, i < 12 → 1 ≤ nI i + 1 := by decide
theorem cnx_1 {x : Int32} (h : ¬ x = -1) : cnx x = 1 := if_neg h
theorem cnx_01 (x : Int32) : cnx x = 0 ∨ cnx x = 1 := by unfold cnx; split <;> simp
set_option maxRecDepth 20000 in
theorem c_X9_erect {w : W0} {m : Nat} {iv : Nat → Nat} {h : AH} {σ : MS} {b y : Int32} (hm : MOK m iv h) (hb0 : 0 ≤ σ.1 8) (hb1 : σ.1 8 ≤ 60) {nw : Nat} (hnw : nw ≤ 100) (ew : σ.1 18 = nI nw) (hrs : isBlk σ b → rsOK σ b.toNatClampNeg) (hf : flOK σ) : CM w yX9_erect mX9_erect m iv h [b, y] σ (fun r σ' => r = some (mEr σ b y).1 ∧ σ' = (mEr σ b y).2) := by
  refine CM_of mcX9_erect (Nat.le_of_ble_eq_true rfl) ?_
  have K403 : ∀ x3 x6 a c x7 : Int32, ∀ x8 : Option MV, a = (nbA σ b.toNatClampNeg) → c = (nbB σ b.toNatClampNeg) → kEr σ b y = 0 → x7 = cutE σ b.toNatClampNeg a c → XM w mX9_erect m iv h (fun r σ' => r = some (mEr σ b y).1 ∧ σ' = (mEr σ b y).2) 403 [some (.inr 0), some (.inl b), some (.inl y), some (.inl x3), some (.inl a), some (.inl c), some (.inl x6), some (.inl x7), x8] [] (erD (erD (erC (upS σ 34 0) b.toNatClampNeg b a c) (σ.2 10 b.toNatClampNeg) (σ.2 12 b.toNatClampNeg) a y.toNatClampNeg) ((σ.2 11 b.toNatClampNeg) + 1) (σ.2 12 b.toNatClampNeg) c y.toNatClampNeg) := by
    intro x3 x6 a c x7 x8 ha hc hk0 hx7
    refine runM_go rkX9_erect hm (fun p => Nat.beq p 20 || Nat.beq p 47 || Nat.beq p 75 || Nat.beq p 88 || Nat.beq p 99 || Nat.beq p 136 || Nat.beq p 144 || Nat.beq p 187 || Nat.beq p 200 || Nat.beq p 257 || Nat.beq p 273 || Nat.beq p 319 || Nat.beq p 359 || Nat.beq p 403) 200 ?_
    refine eP ?_; unfold mEr; rw [if_pos hk0, hx7, ha, hc]; rfl
  have K359 : ∀ x3 x6 a c x7 : Int32, ∀ x8 : Option MV, a = (nbA σ b.toNatClampNeg) → c = (nbB σ b.toNatClampNeg) → kEr σ b y = 0 → x7 = cutE σ b.toNatClampNeg a c → XM w mX9_erect m iv h (fun r σ' => r = some (mEr σ b y).1 ∧ σ' = (mEr σ b y).2) 359 [some (.inr 0), some (.inl b), some (.inl y), some (.inl x3), some (.inl a), some (.inl c), some (.inl x6), some (.inl x7), x8] [] (erD (erC (upS σ 34 0) b.toNatClampNeg b a c) (σ.2 10 b.toNatClampNeg) (σ.2 12 b.toNatClampNeg) a y.toNatClampNeg) := by
    intro x3 x6 a c x7 x8 ha hc hk0 hx7
    have hB : isBlk σ b := by unfold kEr at hk0; grind
    have hY : vp_in y 4 := in_c (c := 3) (n := 4) (by decide) (by unfold kEr at hk0; grind)
    have hbI : vp_in b 60 := blk_in (N := 60) hb0 (Int32.le_iff_toInt_le.mp hb1) (by decide) hB
    obtain ⟨hF, hL, hFL, hV⟩ := hrs hB
    have eF : (σ.2 10 b.toNatClampNeg) = nI (σ.2 10 b.toNatClampNeg).toNatClampNeg := in_n (in_c (c := 11) (n := 12) (by decide) hF)
    have eL : (σ.2 11 b.toNatClampNeg) = nI (σ.2 11 b.toNatClampNeg).toNatClampNeg := in_n (in_c (c := 11) (n := 12) (by decide) hL)
    have hlo12 : (σ.2 10 b.toNatClampNeg).toNatClampNeg < 12 := lt_of_in (in_c (c := 11) (n := 12) (by decide) hF)
    have hhi12 : (σ.2 11 b.toNatClampNeg).toNatClampNeg < 12 := lt_of_in (in_c (c := 11) (n := 12) (by decide) hL)
    have hinA : ¬ a = -1 → vp_in a 60 := fun z => by rw [ha] at z ⊢; exact bAt_in hf hV z
    have hinC : ¬ c = -1 → vp_in c 60 := fun z => by rw [hc] at z ⊢; exact bAt_in hf hV z
    have hE : σ.1 18 + (cnx (nbA σ b.toNatClampNeg) + cnx (nbB σ b.toNatClampNeg)) ≤ 100 := by unfold kEr at hk0; grind
    rw [ew] at hE
    have hWL := wl_in hnw (cnx_01 _) (cnx_01 _) hE
    rw [← ha, ← hc, ← ew] at hWL
    have hw1 : ¬ a = -1 → vp_in (σ.1 18) 100 := fun z => hWL.1 (cnx_1 z)
    have hw2 : ¬ c = -1 → vp_in (σ.1 18 + cnx a) 100 := fun z => hWL.2 (cnx_1 z)
    have hfO : ¬ a = -1 → 1 ≤ (σ.2 10 b.toNatClampNeg) ∧ (σ.2 10 b.toNatClampNeg) ≤ 11 := by intro z; rw [ha] at z; unfold nbA bAt at z; refine ⟨?_, hF.2⟩; have h0 : 0 ≤ (σ.2 10 b.toNatClampNeg) - 1 := (by grind); rw [eF] at h0; have h1 := f_1 _ hlo12 h0; rw [← eF] at h1; exact h1
    have hlO : ¬ c = -1 → 1 ≤ (σ.2 11 b.toNatClampNeg) + 1 ∧ (σ.2 11 b.toNatClampNeg) + 1 ≤ 11 := by intro z; rw [hc] at z; unfold nbB bAt at z; have h1 := l_1 _ hhi12; rw [← eL] at h1; exact ⟨h1, by grind⟩
    have r3_10 : (erC (upS σ 34 0) b.toNatClampNeg b a c).2 10 b.toNatClampNeg = (σ.2 10 b.toNatClampNeg) := by rw [erC_row (by decide) (by decide) (by decide) (by decide)]; rfl
    have r3_12 : (erC (upS σ 34 0) b.toNatClampNeg b a c).2 12 b.toNatClampNeg = (σ.2 12 b.toNatClampNeg) := by rw [erC_row (by decide) (by decide) (by decide) (by decide)]; rfl
    have n3_18 : (erC (upS σ 34 0) b.toNatClampNeg b a c).1 18 = σ.1 18 := by rw [erC_num (by decide)]; rfl
    have r4_11 : (erD (erC (upS σ 34 0) b.toNatClampNeg b a c) (σ.2 10 b.toNatClampNeg) (σ.2 12 b.toNatClampNeg) a y.toNatClampNeg).2 11 b.toNatClampNeg = (σ.2 11 b.toNatClampNeg) := by rw [erD_row (by decide) (by decide), erC_row (by decide) (by decide) (by decide) (by decide)]; rfl
    have r4_12 : (erD (erC (upS σ 34 0) b.toNatClampNeg b a c) (σ.2 10 b.toNatClampNeg) (σ.2 12 b.toNatClampNeg) a y.toNatClampNeg).2 12 b.toNatClampNeg = (σ.2 12 b.toNatClampNeg) := by rw [erD_row (by decide) (by decide)]; exact r3_12
    refine runM_go rkX9_erect hm (fun p => Nat.beq p 20 || Nat.beq p 47 || Nat.beq p 75 || Nat.beq p 88 || Nat.beq p 99 || Nat.beq p 136 || Nat.beq p 144 || Nat.beq p 187 || Nat.beq p 200 || Nat.beq p 257 || Nat.beq p 273 || Nat.beq p 319 || Nat.beq p 359 || Nat.beq p 403) 200 ?_
    refine And.intro (fun c1 => ?_) (fun c1 => ?_)
    · try simp only [b01_eq, b01_ne, Classical.not_not, upS_row] at c1
      have e9 := K403 x3 x6 a c x7 x8 ha hc hk0 hx7
      first
      | (rw [show (erD (erD (erC (upS σ 34 0) b.toNatClampNeg b a c) (σ.2 10 b.toNatClampNeg) (σ.2 12 b.toNatClampNeg) a y.toNatClampNeg) ((σ.2 11 b.toNatClampNeg) + 1) (σ.2 12 b.toNatClampNeg) c y.toNatClampNeg) = _ from if_pos ‹_›] at e9; exact e9)
      | (rw [show (erD (erD (erC (upS σ 34 0) b.toNatClampNeg b a c) (σ.2 10 b.toNatClampNeg) (σ.2 12 b.toNatClampNeg) a y.toNatClampNeg) ((σ.2 11 b.toNatClampNeg) + 1) (σ.2 12 b.toNatClampNeg) c y.toNatClampNeg) = _ from if_neg (fun z => z ‹_›)] at e9; exact e9)
    · try simp only [b01_eq, b01_ne, Classical.not_not, upS_row] at c1
      refine And.intro hbI ?_
      refine And.intro hbI ?_
      refine qX9_erect_382 hm rfl (show CM w yX9_makes mX9_makes m iv h [-1, ((erD (erC (upS σ 34 0) b.toNatClampNeg b a c) (σ.2 10 b.toNatClampNeg) (σ.2 12 b.toNatClampNeg) a y.toNatClampNeg).2 11 b.toNatClampNeg + 1), (erD (erC (upS σ 34 0) b.toNatClampNeg b a c) (σ.2 10 b.toNatClampNeg) (σ.2 12 b.toNatClampNeg) a y.toNatClampNeg).2 12 b.toNatClampNeg, y] (erD (erC (upS σ 34 0) b.toNatClampNeg b a c) (σ.2 10 b.toNatClampNeg) (σ.2 12 b.toNatClampNeg) a y.toNatClampNeg) (fun r σ' => r = none ∧ σ' = (sMak (erD (erC (upS σ 34 0) b.toNatClampNeg b a c) (σ.2 10 b.toNatClampNeg) (σ.2 12 b.toNatClampNeg) a y.toNatClampNeg) (-1) ((σ.2 11 b.toNatClampNeg) + 1) (σ.2 12 b.toNatClampNeg) y.toNatClampNeg)) from by rw [r4_11, r4_12]; exact c_X9_makes hm (by rw [erD_18, n3_18]; exact hw2 ‹_›) hY) (fun r σ1 hq => ?_)
      obtain ⟨rfl, rfl⟩ := hq
      refine runM_ok rkX9_erect hm (fun p => Nat.beq p 20 || Nat.beq p 47 || Nat.beq p 75 || Nat.beq p 88 || Nat.beq p 99 || Nat.beq p 136 || Nat.beq p 144 || Nat.beq p 187 || Nat.beq p 200 || Nat.beq p 257 || Nat.beq p 273 || Nat.beq p 319 || Nat.beq p 359 || Nat.beq p 403) 200 _ _ _ _ ?_
      refine And.intro hbI ?_
      refine And.intro hbI ?_
      refine qX9_erect_400 hm rfl (show CM w yX9_spoils mX9_spoils m iv h [((sMak (erD (erC (upS σ 34 0) b.toNatClampNeg b a c) (σ.2 10 b.toNatClampNeg) (σ.2 12 b.toNatClampNeg) a y.toNatClampNeg) (-1) ((σ.2 11 b.toNatClampNeg) + 1) (σ.2 12 b.toNatClampNeg) y.toNatClampNeg).2 11 b.toNatClampNeg + 1), (sMak (erD (erC (upS σ 34 0) b.toNatClampNeg b a c) (σ.2 10 b.toNatClampNeg) (σ.2 12 b.toNatClampNeg) a y.toNatClampNeg) (-1) ((σ.2 11 b.toNatClampNeg) + 1) (σ.2 12 b.toNatClampNeg) y.toNatClampNeg).2 12 b.toNatClampNeg] (sMak (erD (erC (upS σ 34 0) b.toNatClampNeg b a c) (σ.2 10 b.toNatClampNeg) (σ.2 12 b.toNatClampNeg) a y.toNatClampNeg) (-1) ((σ.2 11 b.toNatClampNeg) + 1) (σ.2 12 b.toNatClampNeg) y.toNatClampNeg) (fun r σ' => r = none ∧ σ' = sSpo (sMak (erD (erC (upS σ 34 0) b.toNatClampNeg b a c) (σ.2 10 b.toNatClampNeg) (σ.2 12 b.toNatClampNeg) a y.toNatClampNeg) (-1) ((σ.2 11 b.toNatClampNeg) + 1) (σ.2 12 b.toNatClampNeg) y.toNatClampNeg) ((σ.2 11 b.toNatClampNeg) + 1) (σ.2 12 b.toNatClampNeg)) from by rw [sMak_row (by decide), sMak_row (by decide), r4_11, r4_12]; exact c_X9_spoils hm (hlO ‹_›) hV) (fun r σ1 hq => ?_)
      obtain ⟨rfl, rfl⟩ := hq
      have e9 := K403 x3 x6 a c x7 x8 ha hc hk0 hx7
      first
      | (rw [show (erD (erD (erC (upS σ 34 0) b.toNatClampNeg b a c) (σ.2 10 b.toNatClampNeg) (σ.2 12 b.toNatClampNeg) a y.toNatClampNeg) ((σ.2 11 b.toNatClampNeg) + 1) (σ.2 12 b.toNatClampNeg) c y.toNatClampNeg) = _ from if_pos ‹_›] at e9; exact e9)
      | (rw [show (erD (erD (erC (upS σ 34 0) b.toNatClampNeg b a c) (σ.2 10 b.toNatClampNeg) (σ.2 12 b.toNatClampNeg) a y.toNatClampNeg) ((σ.2 11 b.toNatClampNeg) + 1) (σ.2 12 b.toNatClampNeg) c y.toNatClampNeg) = _ from if_neg (fun z => z ‹_›)] at e9; exact e9)
  have K319 : ∀ x3 x6 a c x7 : Int32, ∀ x8 : Option MV, a = (nbA σ b.toNatClampNeg) → c = (nbB σ b.toNatClampNeg) → kEr σ b y = 0 → x7 = cutE σ b.toNatClampNeg a c → XM w mX9_erect m iv h (fun r σ' => r = some (mEr σ b y).1 ∧ σ' = (mEr σ b y).2) 319 [some (.inr 0), some (.inl b), some (.inl y), some (.inl x3), some (.inl a), some (.inl c), some (.inl x6), some (.inl x7), x8] [] (erC (upS σ 34 0) b.toNatClampNeg b a c) := by
    intro x3 x6 a c x7 x8 ha hc hk0 hx7
    have hB : isBlk σ b := by unfold kEr at hk0; grind
    have hY : vp_in y 4 := in_c (c := 3) (n := 4) (by decide) (by unfold kEr at hk0; grind)
    have hbI : vp_in b 60 := blk_in (N := 60) hb0 (Int32.le_iff_toInt_le.mp hb1) (by decide) hB
    obtain ⟨hF, hL, hFL, hV⟩ := hrs hB
    have eF : (σ.2 10 b.toNatClampNeg) = nI (σ.2 10 b.toNatClampNeg).toNatClampNeg := in_n (in_c (c := 11) (n := 12) (by decide) hF)
    have eL : (σ.2 11 b.toNatClampNeg) = nI (σ.2 11 b.toNatClampNeg).toNatClampNeg := in_n (in_c (c := 11) (n := 12) (by decide) hL)
    have hlo12 : (σ.2 10 b.toNatClampNeg).toNatClampNeg < 12 := lt_of_in (in_c (c := 11) (n := 12) (by decide) hF)
    have hhi12 : (σ.2 11 b.toNatClampNeg).toNatClampNeg < 12 := lt_of_in (in_c (c := 11) (n := 12) (by decide) hL)
    have hinA : ¬ a = -1 → vp_in a 60 := fun z => by rw [ha] at z ⊢; exact bAt_in hf hV z
    have hinC : ¬ c = -1 → vp_in c 60 := fun z => by rw [hc] at z ⊢; exact bAt_in hf hV z
    have hE : σ.1 18 + (cnx (nbA σ b.toNatClampNeg) + cnx (nbB σ b.toNatClampNeg)) ≤ 100 := by unfold kEr at hk0; grind
    rw [ew] at hE
    have hWL := wl_in hnw (cnx_01 _) (cnx_01 _) hE
    rw [← ha, ← hc, ← ew] at hWL
    have hw1 : ¬ a = -1 → vp_in (σ.1 18) 100 := fun z => hWL.1 (cnx_1 z)
    have hw2 : ¬ c = -1 → vp_in (σ.1 18 + cnx a) 100 := fun z => hWL.2 (cnx_1 z)
    have hfO : ¬ a = -1 → 1 ≤ (σ.2 10 b.toNatClampNeg) ∧ (σ.2 10 b.toNatClampNeg) ≤ 11 := by intro z; rw [ha] at z; unfold nbA bAt at z; refine ⟨?_, hF.2⟩; have h0 : 0 ≤ (σ.2 10 b.toNatClampNeg) - 1 := (by grind); rw [eF] at h0; have h1 := f_1 _ hlo12 h0; rw [← eF] at h1; exact h1
    have hlO : ¬ c = -1 → 1 ≤ (σ.2 11 b.toNatClampNeg) + 1 ∧ (σ.2 11 b.toNatClampNeg) + 1 ≤ 11 := by intro z; rw [hc] at z; unfold nbB bAt at z; have h1 := l_1 _ hhi12; rw [← eL] at h1; exact ⟨h1, by grind⟩
    have r3_10 : (erC (upS σ 34 0) b.toNatClampNeg b a c).2 10 b.toNatClampNeg = (σ.2 10 b.toNatClampNeg) := by rw [erC_row (by decide) (by decide) (by decide) (by decide)]; rfl
    have r3_12 : (erC (upS σ 34 0) b.toNatClampNeg b a c).2 12 b.toNatClampNeg = (σ.2 12 b.toNatClampNeg) := by rw [erC_row (by decide) (by decide) (by decide) (by decide)]; rfl
    have n3_18 : (erC (upS σ 34 0) b.toNatClampNeg b a c).1 18 = σ.1 18 := by rw [erC_num (by decide)]; rfl
    have r4_11 : (erD (erC (upS σ 34 0) b.toNatClampNeg b a c) (σ.2 10 b.toNatClampNeg) (σ.2 12 b.toNatClampNeg) a y.toNatClampNeg).2 11 b.toNatClampNeg = (σ.2 11 b.toNatClampNeg) := by rw [erD_row (by decide) (by decide), erC_row (by decide) (by decide) (by decide) (by decide)]; rfl
    have r4_12 : (erD (erC (upS σ 34 0) b.toNatClampNeg b a c) (σ.2 10 b.toNatClampNeg) (σ.2 12 b.toNatClampNeg) a y.toNatClampNeg).2 12 b.toNatClampNeg = (σ.2 12 b.toNatClampNeg) := by rw [erD_row (by decide) (by decide)]; exact r3_12
    refine runM_go rkX9_erect hm (fun p => Nat.beq p 20 || Nat.beq p 47 || Nat.beq p 75 || Nat.beq p 88 || Nat.beq p 99 || Nat.beq p 136 || Nat.beq p 144 || Nat.beq p 187 || Nat.beq p 200 || Nat.beq p 257 || Nat.beq p 273 || Nat.beq p 319 || Nat.beq p 359 || Nat.beq p 403) 200 ?_
    refine And.intro (fun c2 => ?_) (fun c2 => ?_)
    · try simp only [b01_eq, b01_ne, Classical.not_not, upS_row] at c2
      have e9 := K359 x3 x6 a c x7 x8 ha hc hk0 hx7
      first
      | (unfold erD at e9; rw [if_pos ‹_›] at e9; exact e9)
      | (unfold erD at e9; rw [if_neg (fun z => z ‹_›)] at e9; exact e9)
    · try simp only [b01_eq, b01_ne, Classical.not_not, upS_row] at c2
      refine And.intro hbI ?_
      refine And.intro hbI ?_
      refine qX9_erect_340 hm rfl (show CM w yX9_makes mX9_makes m iv h [-1, ((erC (upS σ 34 0) b.toNatClampNeg b a c).2 10 b.toNatClampNeg), (erC (upS σ 34 0) b.toNatClampNeg b a c).2 12 b.toNatClampNeg, y] (erC (upS σ 34 0) b.toNatClampNeg b a c) (fun r σ' => r = none ∧ σ' = (sMak (erC (upS σ 34 0) b.toNatClampNeg b a c) (-1) (σ.2 10 b.toNatClampNeg) (σ.2 12 b.toNatClampNeg) y.toNatClampNeg)) from by rw [r3_10, r3_12]; exact c_X9_makes hm (by rw [n3_18]; exact hw1 ‹_›) hY) (fun r σ1 hq => ?_)
      obtain ⟨rfl, rfl⟩ := hq
      refine runM_ok rkX9_erect hm (fun p => Nat.beq p 20 || Nat.beq p 47 || Nat.beq p 75 || Nat.beq p 88 || Nat.beq p 99 || Nat.beq p 136 || Nat.beq p 144 || Nat.beq p 187 || Nat.beq p 200 || Nat.beq p 257 || Nat.beq p 273 || Nat.beq p 319 || Nat.beq p 359 || Nat.beq p 403) 200 _ _ _ _ ?_
      refine And.intro hbI ?_
      refine And.intro hbI ?_
      refine qX9_erect_356 hm rfl (show CM w yX9_spoils mX9_spoils m iv h [((sMak (erC (upS σ 34 0) b.toNatClampNeg b a c) (-1) (σ.2 10 b.toNatClampNeg) (σ.2 12 b.toNatClampNeg) y.toNatClampNeg).2 10 b.toNatClampNeg), (sMak (erC (upS σ 34 0) b.toNatClampNeg b a c) (-1) (σ.2 10 b.toNatClampNeg) (σ.2 12 b.toNatClampNeg) y.toNatClampNeg).2 12 b.toNatClampNeg] (sMak (erC (upS σ 34 0) b.toNatClampNeg b a c) (-1) (σ.2 10 b.toNatClampNeg) (σ.2 12 b.toNatClampNeg) y.toNatClampNeg) (fun r σ' => r = none ∧ σ' = sSpo (sMak (erC (upS σ 34 0) b.toNatClampNeg b a c) (-1) (σ.2 10 b.toNatClampNeg) (σ.2 12 b.toNatClampNeg) y.toNatClampNeg) (σ.2 10 b.toNatClampNeg) (σ.2 12 b.toNatClampNeg)) from by rw [sMak_row (by decide), sMak_row (by decide), r3_10, r3_12]; exact c_X9_spoils hm (hfO ‹_›) hV) (fun r σ1 hq => ?_)
      obtain ⟨rfl, rfl⟩ := hq
      have e9 := K359 x3 x6 a c x7 x8 ha hc hk0 hx7
      first
      | (unfold erD at e9; rw [if_pos ‹_›] at e9; exact e9)
      | (unfold erD at e9; rw [if_neg (fun z => z ‹_›)] at e9; exact e9)
  have K257 : ∀ x3 x6 a c x7 x : Int32, ∀ x8 : Option MV, a = (nbA σ b.toNatClampNeg) → c = (nbB σ b.toNatClampNeg) → kEr σ b y = 0 → x7 = cutE σ b.toNatClampNeg a c → x = begE (erA (upS σ 34 0) b.toNatClampNeg a c) b.toNatClampNeg a c → XM w mX9_erect m iv h (fun r σ' => r = some (mEr σ b y).1 ∧ σ' = (mEr σ b y).2) 257 [some (.inr 0), some (.inl b), some (.inl y), some (.inl x3), some (.inl a), some (.inl c), some (.inl x6), some (.inl x7), x8] [.inl x, .inl b, .inr 17] (erA (upS σ 34 0) b.toNatClampNeg a c) := by
    intro x3 x6 a c x7 x x8 ha hc hk0 hx7 hx
    subst hx
    have hB : isBlk σ b := by unfold kEr at hk0; grind
    have hY : vp_in y 4 := in_c (c := 3) (n := 4) (by decide) (by unfold kEr at hk0; grind)
    have hbI : vp_in b 60 := blk_in (N := 60) hb0 (Int32.le_iff_toInt_le.mp hb1) (by decide) hB
    obtain ⟨hF, hL, hFL, hV⟩ := hrs hB
    have eF : (σ.2 10 b.toNatClampNeg) = nI (σ.2 10 b.toNatClampNeg).toNatClampNeg := in_n (in_c (c := 11) (n := 12) (by decide) hF)
    have eL : (σ.2 11 b.toNatClampNeg) = nI (σ.2 11 b.toNatClampNeg).toNatClampNeg := in_n (in_c (c := 11) (n := 12) (by decide) hL)
    have hlo12 : (σ.2 10 b.toNatClampNeg).toNatClampNeg < 12 := lt_of_in (in_c (c := 11) (n := 12) (by decide) hF)
    have hhi12 : (σ.2 11 b.toNatClampNeg).toNatClampNeg < 12 := lt_of_in (in_c (c := 11) (n := 12) (by decide) hL)
    have hinA : ¬ a = -1 → vp_in a 60 := fun z => by rw [ha] at z ⊢; exact bAt_in hf hV z
    have hinC : ¬ c = -1 → vp_in c 60 := fun z => by rw [hc] at z ⊢; exact bAt_in hf hV z
    have hE : σ.1 18 + (cnx (nbA σ b.toNatClampNeg) + cnx (nbB σ b.toNatClampNeg)) ≤ 100 := by unfold kEr at hk0; grind
    rw [ew] at hE
    have hWL := wl_in hnw (cnx_01 _) (cnx_01 _) hE
    rw [← ha, ← hc, ← ew] at hWL
    have hw1 : ¬ a = -1 → vp_in (σ.1 18) 100 := fun z => hWL.1 (cnx_1 z)
    have hw2 : ¬ c = -1 → vp_in (σ.1 18 + cnx a) 100 := fun z => hWL.2 (cnx_1 z)
    have hfO : ¬ a = -1 → 1 ≤ (σ.2 10 b.toNatClampNeg) ∧ (σ.2 10 b.toNatClampNeg) ≤ 11 := by intro z; rw [ha] at z; unfold nbA bAt at z; refine ⟨?_, hF.2⟩; have h0 : 0 ≤ (σ.2 10 b.toNatClampNeg) - 1 := (by grind); rw [eF] at h0; have h1 := f_1 _ hlo12 h0; rw [← eF] at h1; exact h1
    have hlO : ¬ c = -1 → 1 ≤ (σ.2 11 b.toNatClampNeg) + 1 ∧ (σ.2 11 b.toNatClampNeg) + 1 ≤ 11 := by intro z; rw [hc] at z; unfold nbB bAt at z; have h1 := l_1 _ hhi12; rw [← eL] at h1; exact ⟨h1, by grind⟩
    have loop273 : ∀ n k : Nat, (σ.2 10 b.toNatClampNeg).toNatClampNeg ≤ k → k ≤ (σ.2 11 b.toNatClampNeg).toNatClampNeg + 1 → (σ.2 11 b.toNatClampNeg).toNatClampNeg + 1 ≤ n + k → XM w mX9_erect m iv h (fun r σ' => r = some (mEr σ b y).1 ∧ σ' = (mEr σ b y).2) 273 [some (.inr 0), some (.inl b), some (.inl y), some (.inl x3), some (.inl a), some (.inl c), some (.inl x6), some (.inl x7), some (.inl (nI k))] [] (flS (erB (upS σ 34 0) b.toNatClampNeg a c) (σ.2 12 b.toNatClampNeg) b (σ.2 10 b.toNatClampNeg).toNatClampNeg (k - (σ.2 10 b.toNatClampNeg).toNatClampNeg)) := by
      intro n
      induction n with
      | zero =>
        intro k hk1 hk2 hk3
        have e11 : (flS (erB (upS σ 34 0) b.toNatClampNeg a c) (σ.2 12 b.toNatClampNeg) b (σ.2 10 b.toNatClampNeg).toNatClampNeg (k - (σ.2 10 b.toNatClampNeg).toNatClampNeg)).2 11 b.toNatClampNeg = (σ.2 11 b.toNatClampNeg) := by rw [flS_row (by decide), erB_row (by decide) (by decide) (by decide)]; rfl
        have e12 : (flS (erB (upS σ 34 0) b.toNatClampNeg a c) (σ.2 12 b.toNatClampNeg) b (σ.2 10 b.toNatClampNeg).toNatClampNeg (k - (σ.2 10 b.toNatClampNeg).toNatClampNeg)).2 12 b.toNatClampNeg = (σ.2 12 b.toNatClampNeg) := by rw [flS_row (by decide), erB_row (by decide) (by decide) (by decide)]; rfl
        have hex : (flS (erB (upS σ 34 0) b.toNatClampNeg a c) (σ.2 12 b.toNatClampNeg) b (σ.2 10 b.toNatClampNeg).toNatClampNeg (k - (σ.2 10 b.toNatClampNeg).toNatClampNeg)).2 11 b.toNatClampNeg < nI k → k = (σ.2 11 b.toNatClampNeg).toNatClampNeg + 1 := by intro z; rw [e11, eL] at z; have := (nI_ltI (by omega) (by omega)).mp z; omega
        have hlt : ¬ (flS (erB (upS σ 34 0) b.toNatClampNeg a c) (σ.2 12 b.toNatClampNeg) b (σ.2 10 b.toNatClampNeg).toNatClampNeg (k - (σ.2 10 b.toNatClampNeg).toNatClampNeg)).2 11 b.toNatClampNeg < nI k → k ≤ (σ.2 11 b.toNatClampNeg).toNatClampNeg := by intro z; rw [e11, eL] at z; exact Nat.le_of_not_lt (fun q => z ((nI_ltI (by omega) (by omega)).mpr q))
        refine runM_go rkX9_erect hm (fun p => Nat.beq p 20 || Nat.beq p 47 || Nat.beq p 75 || Nat.beq p 88 || Nat.beq p 99 || Nat.beq p 136 || Nat.beq p 144 || Nat.beq p 187 || Nat.beq p 200 || Nat.beq p 257 || Nat.beq p 273 || Nat.beq p 319 || Nat.beq p 359 || Nat.beq p 403) 200 ?_
        refine And.intro hbI ?_
        refine And.intro (fun c0 => ?_) (fun c0 => ?_)
        · skip
          have hkn := hex ‹_›
          subst hkn
          exact K319 _ _ _ _ _ _ ha hc hk0 hx7
        · exact absurd (hlt c0) (by omega)
      | succ n ih =>
        intro k hk1 hk2 hk3
        have e11 : (flS (erB (upS σ 34 0) b.toNatClampNeg a c) (σ.2 12 b.toNatClampNeg) b (σ.2 10 b.toNatClampNeg).toNatClampNeg (k - (σ.2 10 b.toNatClampNeg).toNatClampNeg)).2 11 b.toNatClampNeg = (σ.2 11 b.toNatClampNeg) := by rw [flS_row (by decide), erB_row (by decide) (by decide) (by decide)]; rfl
        have e12 : (flS (erB (upS σ 34 0) b.toNatClampNeg a c) (σ.2 12 b.toNatClampNeg) b (σ.2 10 b.toNatClampNeg).toNatClampNeg (k - (σ.2 10 b.toNatClampNeg).toNatClampNeg)).2 12 b.toNatClampNeg = (σ.2 12 b.toNatClampNeg) := by rw [flS_row (by decide), erB_row (by decide) (by decide) (by decide)]; rfl
        have hex : (flS (erB (upS σ 34 0) b.toNatClampNeg a c) (σ.2 12 b.toNatClampNeg) b (σ.2 10 b.toNatClampNeg).toNatClampNeg (k - (σ.2 10 b.toNatClampNeg).toNatClampNeg)).2 11 b.toNatClampNeg < nI k → k = (σ.2 11 b.toNatClampNeg).toNatClampNeg + 1 := by intro z; rw [e11, eL] at z; have := (nI_ltI (by omega) (by omega)).mp z; omega
        have hlt : ¬ (flS (erB (upS σ 34 0) b.toNatClampNeg a c) (σ.2 12 b.toNatClampNeg) b (σ.2 10 b.toNatClampNeg).toNatClampNeg (k - (σ.2 10 b.toNatClampNeg).toNatClampNeg)).2 11 b.toNatClampNeg < nI k → k ≤ (σ.2 11 b.toNatClampNeg).toNatClampNeg := by intro z; rw [e11, eL] at z; exact Nat.le_of_not_lt (fun q => z ((nI_ltI (by omega) (by omega)).mpr q))
        refine runM_go rkX9_erect hm (fun p => Nat.beq p 20 || Nat.beq p 47 || Nat.beq p 75 || Nat.beq p 88 || Nat.beq p 99 || Nat.beq p 136 || Nat.beq p 144 || Nat.beq p 187 || Nat.beq p 200 || Nat.beq p 257 || Nat.beq p 273 || Nat.beq p 319 || Nat.beq p 359 || Nat.beq p 403) 200 ?_
        refine And.intro hbI ?_
        refine And.intro (fun c3 => ?_) (fun c3 => ?_)
        · (try simp only [b01_eq, b01_ne, Classical.not_not, upS_row] at c3); try (have hcell : vp_in (12 * (flS (erB (upS σ 34 0) b.toNatClampNeg a c) (σ.2 12 b.toNatClampNeg) b (σ.2 10 b.toNatClampNeg).toNatClampNeg (k - (σ.2 10 b.toNatClampNeg).toNatClampNeg)).2 12 b.toNatClampNeg + nI k) 36 := by (rw [e12]; exact cell_in ⟨nI_pos' (by have := hlt ‹_›; omega), nI_le (b := 11) (by have := hlt ‹_›; omega) (by decide)⟩ hV))
          have hkn := hex ‹_›
          subst hkn
          exact K319 _ _ _ _ _ _ ha hc hk0 hx7
        · (try simp only [b01_eq, b01_ne, Classical.not_not, upS_row] at c3); try (have hcell : vp_in (12 * (flS (erB (upS σ 34 0) b.toNatClampNeg a c) (σ.2 12 b.toNatClampNeg) b (σ.2 10 b.toNatClampNeg).toNatClampNeg (k - (σ.2 10 b.toNatClampNeg).toNatClampNeg)).2 12 b.toNatClampNeg + nI k) 36 := by (rw [e12]; exact cell_in ⟨nI_pos' (by have := hlt ‹_›; omega), nI_le (b := 11) (by have := hlt ‹_›; omega) (by decide)⟩ hV))
          refine And.intro hbI ?_
          refine And.intro hcell ?_
          have e9 := ih (k + 1) (by omega) (by have := hlt ‹_›; omega) (by omega)
          rw [show k + 1 - (σ.2 10 b.toNatClampNeg).toNatClampNeg = (k - (σ.2 10 b.toNatClampNeg).toNatClampNeg) + 1 from by omega] at e9
          rw [← nI_1 k] at e9
          unfold flS at e9
          rw [show (σ.2 10 b.toNatClampNeg).toNatClampNeg + (k - (σ.2 10 b.toNatClampNeg).toNatClampNeg) = k from by omega] at e9
          simp only [e12]
          exact e9
    refine runM_go rkX9_erect hm (fun p => Nat.beq p 20 || Nat.beq p 47 || Nat.beq p 75 || Nat.beq p 88 || Nat.beq p 99 || Nat.beq p 136 || Nat.beq p 144 || Nat.beq p 187 || Nat.beq p 200 || Nat.beq p 257 || Nat.beq p 273 || Nat.beq p 319 || Nat.beq p 359 || Nat.beq p 403) 200 ?_
    refine And.intro hbI ?_
    refine And.intro hbI ?_
    refine And.intro hbI ?_
    have e9 := loop273 ((σ.2 11 b.toNatClampNeg).toNatClampNeg + 1) (σ.2 10 b.toNatClampNeg).toNatClampNeg (Nat.le_refl _) (by omega) (by omega)
    rw [Nat.sub_self, ← eF] at e9
    show XM w mX9_erect m iv h (fun r σ' => r = some (mEr σ b y).1 ∧ σ' = (mEr σ b y).2) 273 [some (.inr 0), some (.inl b), some (.inl y), some (.inl x3), some (.inl a), some (.inl c), some (.inl x6), some (.inl x7), some (.inl ((erB (upS σ 34 0) b.toNatClampNeg a c).2 10 b.toNatClampNeg))] [] (erB (upS σ 34 0) b.toNatClampNeg a c)
    rw [show (erB (upS σ 34 0) b.toNatClampNeg a c).2 10 b.toNatClampNeg = (σ.2 10 b.toNatClampNeg) from by rw [erB_row (by decide) (by decide) (by decide)]; rfl]
    exact e9
  have K200 : ∀ x3 x6 a c x7 : Int32, ∀ x8 : Option MV, a = (nbA σ b.toNatClampNeg) → c = (nbB σ b.toNatClampNeg) → kEr σ b y = 0 → x7 = cutE σ b.toNatClampNeg a c → XM w mX9_erect m iv h (fun r σ' => r = some (mEr σ b y).1 ∧ σ' = (mEr σ b y).2) 200 [some (.inr 0), some (.inl b), some (.inl y), some (.inl x3), some (.inl a), some (.inl c), some (.inl x6), some (.inl x7), x8] [] (erA (upS σ 34 0) b.toNatClampNeg a c) := by
    intro x3 x6 a c x7 x8 ha hc hk0 hx7
    have hB : isBlk σ b := by unfold kEr at hk0; grind
    have hY : vp_in y 4 := in_c (c := 3) (n := 4) (by decide) (by unfold kEr at hk0; grind)
    have hbI : vp_in b 60 := blk_in (N := 60) hb0 (Int32.le_iff_toInt_le.mp hb1) (by decide) hB
    obtain ⟨hF, hL, hFL, hV⟩ := hrs hB
    have eF : (σ.2 10 b.toNatClampNeg) = nI (σ.2 10 b.toNatClampNeg).toNatClampNeg := in_n (in_c (c := 11) (n := 12) (by decide) hF)
    have eL : (σ.2 11 b.toNatClampNeg) = nI (σ.2 11 b.toNatClampNeg).toNatClampNeg := in_n (in_c (c := 11) (n := 12) (by decide) hL)
    have hlo12 : (σ.2 10 b.toNatClampNeg).toNatClampNeg < 12 := lt_of_in (in_c (c := 11) (n := 12) (by decide) hF)
    have hhi12 : (σ.2 11 b.toNatClampNeg).toNatClampNeg < 12 := lt_of_in (in_c (c := 11) (n := 12) (by decide) hL)
    have hinA : ¬ a = -1 → vp_in a 60 := fun z => by rw [ha] at z ⊢; exact bAt_in hf hV z
    have hinC : ¬ c = -1 → vp_in c 60 := fun z => by rw [hc] at z ⊢; exact bAt_in hf hV z
    have hE : σ.1 18 + (cnx (nbA σ b.toNatClampNeg) + cnx (nbB σ b.toNatClampNeg)) ≤ 100 := by unfold kEr at hk0; grind
    rw [ew] at hE
    have hWL := wl_in hnw (cnx_01 _) (cnx_01 _) hE
    rw [← ha, ← hc, ← ew] at hWL
    have hw1 : ¬ a = -1 → vp_in (σ.1 18) 100 := fun z => hWL.1 (cnx_1 z)
    have hw2 : ¬ c = -1 → vp_in (σ.1 18 + cnx a) 100 := fun z => hWL.2 (cnx_1 z)
    have hfO : ¬ a = -1 → 1 ≤ (σ.2 10 b.toNatClampNeg) ∧ (σ.2 10 b.toNatClampNeg) ≤ 11 := by intro z; rw [ha] at z; unfold nbA bAt at z; refine ⟨?_, hF.2⟩; have h0 : 0 ≤ (σ.2 10 b.toNatClampNeg) - 1 := (by grind); rw [eF] at h0; have h1 := f_1 _ hlo12 h0; rw [← eF] at h1; exact h1
    have hlO : ¬ c = -1 → 1 ≤ (σ.2 11 b.toNatClampNeg) + 1 ∧ (σ.2 11 b.toNatClampNeg) + 1 ≤ 11 := by intro z; rw [hc] at z; unfold nbB bAt at z; have h1 := l_1 _ hhi12; rw [← eL] at h1; exact ⟨h1, by grind⟩
    refine runM_go rkX9_erect hm (fun p => Nat.beq p 20 || Nat.beq p 47 || Nat.beq p 75 || Nat.beq p 88 || Nat.beq p 99 || Nat.beq p 136 || Nat.beq p 144 || Nat.beq p 187 || Nat.beq p 200 || Nat.beq p 257 || Nat.beq p 273 || Nat.beq p 319 || Nat.beq p 359 || Nat.beq p 403) 200 ?_
    refine And.intro (fun c4 => ?_) (fun c4 => ?_)
    · try simp only [b01_eq, b01_ne, Classical.not_not, upS_row] at c4
      refine And.intro (fun c5 => ?_) (fun c5 => ?_)
      · try simp only [b01_eq, b01_ne, Classical.not_not, upS_row] at c5
        refine And.intro hbI ?_
        exact K257 _ _ _ _ _ _ _ ha hc hk0 hx7 (by unfold begE; grind)
      · try simp only [b01_eq, b01_ne, Classical.not_not, upS_row] at c5
        refine And.intro (hinC ‹_›) ?_
        refine And.intro hbI ?_
        exact K257 _ _ _ _ _ _ _ ha hc hk0 hx7 (by unfold begE; grind)
    · try simp only [b01_eq, b01_ne, Classical.not_not, upS_row] at c4
      refine qX9_erect_214 hm rfl (c_X9_endOf hm (hinA ‹_›)) (fun r σ1 hq => ?_)
      obtain ⟨rfl, rfl⟩ := hq
      refine runM_ok rkX9_erect hm (fun p => Nat.beq p 20 || Nat.beq p 47 || Nat.beq p 75 || Nat.beq p 88 || Nat.beq p 99 || Nat.beq p 136 || Nat.beq p 144 || Nat.beq p 187 || Nat.beq p 200 || Nat.beq p 257 || Nat.beq p 273 || Nat.beq p 319 || Nat.beq p 359 || Nat.beq p 403) 200 _ _ _ _ ?_
      exact K257 _ _ _ _ _ _ _ ha hc hk0 hx7 (by unfold begE; grind)
  have K187 : ∀ x3 x6 x8 a c x : Int32, a = (nbA σ b.toNatClampNeg) → c = (nbB σ b.toNatClampNeg) → kEr σ b y = 0 → ¬ a = -1 → ¬ c = -1 → x = cutE σ b.toNatClampNeg a c → XM w mX9_erect m iv h (fun r σ' => r = some (mEr σ b y).1 ∧ σ' = (mEr σ b y).2) 187 [some (.inr 0), some (.inl b), some (.inl y), some (.inl x3), some (.inl a), some (.inl c), some (.inl x6), some (.inl 0), some (.inl x8)] [.inl x] (upS σ 34 0) := by
    intro x3 x6 x8 a c x ha hc hk0 hna hnc hx
    have hB : isBlk σ b := by unfold kEr at hk0; grind
    have hY : vp_in y 4 := in_c (c := 3) (n := 4) (by decide) (by unfold kEr at hk0; grind)
    have hbI : vp_in b 60 := blk_in (N := 60) hb0 (Int32.le_iff_toInt_le.mp hb1) (by decide) hB
    obtain ⟨hF, hL, hFL, hV⟩ := hrs hB
    have eF : (σ.2 10 b.toNatClampNeg) = nI (σ.2 10 b.toNatClampNeg).toNatClampNeg := in_n (in_c (c := 11) (n := 12) (by decide) hF)
    have eL : (σ.2 11 b.toNatClampNeg) = nI (σ.2 11 b.toNatClampNeg).toNatClampNeg := in_n (in_c (c := 11) (n := 12) (by decide) hL)
    have hlo12 : (σ.2 10 b.toNatClampNeg).toNatClampNeg < 12 := lt_of_in (in_c (c := 11) (n := 12) (by decide) hF)
    have hhi12 : (σ.2 11 b.toNatClampNeg).toNatClampNeg < 12 := lt_of_in (in_c (c := 11) (n := 12) (by decide) hL)
    have hinA : ¬ a = -1 → vp_in a 60 := fun z => by rw [ha] at z ⊢; exact bAt_in hf hV z
    have hinC : ¬ c = -1 → vp_in c 60 := fun z => by rw [hc] at z ⊢; exact bAt_in hf hV z
    have hE : σ.1 18 + (cnx (nbA σ b.toNatClampNeg) + cnx (nbB σ b.toNatClampNeg)) ≤ 100 := by unfold kEr at hk0; grind
    rw [ew] at hE
    have hWL := wl_in hnw (cnx_01 _) (cnx_01 _) hE
    rw [← ha, ← hc, ← ew] at hWL
    have hw1 : ¬ a = -1 → vp_in (σ.1 18) 100 := fun z => hWL.1 (cnx_1 z)
    have hw2 : ¬ c = -1 → vp_in (σ.1 18 + cnx a) 100 := fun z => hWL.2 (cnx_1 z)
    have hfO : ¬ a = -1 → 1 ≤ (σ.2 10 b.toNatClampNeg) ∧ (σ.2 10 b.toNatClampNeg) ≤ 11 := by intro z; rw [ha] at z; unfold nbA bAt at z; refine ⟨?_, hF.2⟩; have h0 : 0 ≤ (σ.2 10 b.toNatClampNeg) - 1 := (by grind); rw [eF] at h0; have h1 := f_1 _ hlo12 h0; rw [← eF] at h1; exact h1
    have hlO : ¬ c = -1 → 1 ≤ (σ.2 11 b.toNatClampNeg) + 1 ∧ (σ.2 11 b.toNatClampNeg) + 1 ≤ 11 := by intro z; rw [hc] at z; unfold nbB bAt at z; have h1 := l_1 _ hhi12; rw [← eL] at h1; exact ⟨h1, by grind⟩
    refine runM_go rkX9_erect hm (fun p => Nat.beq p 20 || Nat.beq p 47 || Nat.beq p 75 || Nat.beq p 88 || Nat.beq p 99 || Nat.beq p 136 || Nat.beq p 144 || Nat.beq p 187 || Nat.beq p 200 || Nat.beq p 257 || Nat.beq p 273 || Nat.beq p 319 || Nat.beq p 359 || Nat.beq p 403) 200 ?_
    refine And.intro hbI ?_
    refine And.intro hbI ?_
    first
    | (have e9 := K200 x3 x6 a c x (some (.inl x8)) ha hc hk0 hx; rw [erA, if_pos ⟨hna, hnc⟩] at e9; rw [hx]; rw [hx] at e9; exact e9)
    | (have e9 := K200 x3 x6 a c 0 none ha hc hk0 (by unfold cutE; rw [if_neg (by grind)]); rw [erA, if_neg (by grind)] at e9; exact e9)
  have K144 : ∀ x3 x6 a c : Int32, a = (nbA σ b.toNatClampNeg) → c = (nbB σ b.toNatClampNeg) → kEr σ b y = 0 → XM w mX9_erect m iv h (fun r σ' => r = some (mEr σ b y).1 ∧ σ' = (mEr σ b y).2) 144 [some (.inr 0), some (.inl b), some (.inl y), some (.inl x3), some (.inl a), some (.inl c), some (.inl x6), none, none] [] (upS σ 34 0) := by
    intro x3 x6 a c ha hc hk0
    have hB : isBlk σ b := by unfold kEr at hk0; grind
    have hY : vp_in y 4 := in_c (c := 3) (n := 4) (by decide) (by unfold kEr at hk0; grind)
    have hbI : vp_in b 60 := blk_in (N := 60) hb0 (Int32.le_iff_toInt_le.mp hb1) (by decide) hB
    obtain ⟨hF, hL, hFL, hV⟩ := hrs hB
    have eF : (σ.2 10 b.toNatClampNeg) = nI (σ.2 10 b.toNatClampNeg).toNatClampNeg := in_n (in_c (c := 11) (n := 12) (by decide) hF)
    have eL : (σ.2 11 b.toNatClampNeg) = nI (σ.2 11 b.toNatClampNeg).toNatClampNeg := in_n (in_c (c := 11) (n := 12) (by decide) hL)
    have hlo12 : (σ.2 10 b.toNatClampNeg).toNatClampNeg < 12 := lt_of_in (in_c (c := 11) (n := 12) (by decide) hF)
    have hhi12 : (σ.2 11 b.toNatClampNeg).toNatClampNeg < 12 := lt_of_in (in_c (c := 11) (n := 12) (by decide) hL)
    have hinA : ¬ a = -1 → vp_in a 60 := fun z => by rw [ha] at z ⊢; exact bAt_in hf hV z
    have hinC : ¬ c = -1 → vp_in c 60 := fun z => by rw [hc] at z ⊢; exact bAt_in hf hV z
    have hE : σ.1 18 + (cnx (nbA σ b.toNatClampNeg) + cnx (nbB σ b.toNatClampNeg)) ≤ 100 := by unfold kEr at hk0; grind
    rw [ew] at hE
    have hWL := wl_in hnw (cnx_01 _) (cnx_01 _) hE
    rw [← ha, ← hc, ← ew] at hWL
    have hw1 : ¬ a = -1 → vp_in (σ.1 18) 100 := fun z => hWL.1 (cnx_1 z)
    have hw2 : ¬ c = -1 → vp_in (σ.1 18 + cnx a) 100 := fun z => hWL.2 (cnx_1 z)
    have hfO : ¬ a = -1 → 1 ≤ (σ.2 10 b.toNatClampNeg) ∧ (σ.2 10 b.toNatClampNeg) ≤ 11 := by intro z; rw [ha] at z; unfold nbA bAt at z; refine ⟨?_, hF.2⟩; have h0 : 0 ≤ (σ.2 10 b.toNatClampNeg) - 1 := (by grind); rw [eF] at h0; have h1 := f_1 _ hlo12 h0; rw [← eF] at h1; exact h1
    have hlO : ¬ c = -1 → 1 ≤ (σ.2 11 b.toNatClampNeg) + 1 ∧ (σ.2 11 b.toNatClampNeg) + 1 ≤ 11 := by intro z; rw [hc] at z; unfold nbB bAt at z; have h1 := l_1 _ hhi12; rw [← eL] at h1; exact ⟨h1, by grind⟩
    refine runM_go rkX9_erect hm (fun p => Nat.beq p 20 || Nat.beq p 47 || Nat.beq p 75 || Nat.beq p 88 || Nat.beq p 99 || Nat.beq p 136 || Nat.beq p 144 || Nat.beq p 187 || Nat.beq p 200 || Nat.beq p 257 || Nat.beq p 273 || Nat.beq p 319 || Nat.beq p 359 || Nat.beq p 403) 200 ?_
    refine And.intro (fun c6 => ?_) (fun c6 => ?_)
    · try simp only [b01_eq, b01_ne, Classical.not_not, upS_row] at c6
      first
      | (have e9 := K200 x3 x6 a c x (some (.inl x8)) ha hc hk0 hx; rw [erA, if_pos ⟨hna, hnc⟩] at e9; rw [hx]; rw [hx] at e9; exact e9)
      | (have e9 := K200 x3 x6 a c 0 none ha hc hk0 (by unfold cutE; rw [if_neg (by grind)]); rw [erA, if_neg (by grind)] at e9; exact e9)
    · try simp only [b01_eq, b01_ne, Classical.not_not, upS_row] at c6
      refine And.intro (fun c7 => ?_) (fun c7 => ?_)
      · try simp only [b01_eq, b01_ne, Classical.not_not, upS_row] at c7
        first
        | (have e9 := K200 x3 x6 a c x (some (.inl x8)) ha hc hk0 hx; rw [erA, if_pos ⟨hna, hnc⟩] at e9; rw [hx]; rw [hx] at e9; exact e9)
        | (have e9 := K200 x3 x6 a c 0 none ha hc hk0 (by unfold cutE; rw [if_neg (by grind)]); rw [erA, if_neg (by grind)] at e9; exact e9)
      · try simp only [b01_eq, b01_ne, Classical.not_not, upS_row] at c7
        refine And.intro hbI ?_
        refine qX9_erect_170 hm rfl (c_X9_space hm (hinA ‹_›) (hinC ‹_›)) (fun r σ1 hq => ?_)
        obtain ⟨rfl, rfl⟩ := hq
        refine runM_ok rkX9_erect hm (fun p => Nat.beq p 20 || Nat.beq p 47 || Nat.beq p 75 || Nat.beq p 88 || Nat.beq p 99 || Nat.beq p 136 || Nat.beq p 144 || Nat.beq p 187 || Nat.beq p 200 || Nat.beq p 257 || Nat.beq p 273 || Nat.beq p 319 || Nat.beq p 359 || Nat.beq p 403) 200 _ _ _ _ ?_
        refine And.intro (fun c8 => ?_) (fun c8 => ?_)
        · try simp only [b01_eq, b01_ne, Classical.not_not, upS_row] at c8
          exact K187 _ _ _ _ _ _ ha hc hk0 ‹_› ‹_› (by first | exact cutE_p (σ := σ) ‹_› ‹_› ‹_› | exact cutE_n (σ := σ) ‹_› ‹_› ‹_›)
        · try simp only [b01_eq, b01_ne, Classical.not_not, upS_row] at c8
          exact K187 _ _ _ _ _ _ ha hc hk0 ‹_› ‹_› (by first | exact cutE_p (σ := σ) ‹_› ‹_› ‹_› | exact cutE_n (σ := σ) ‹_› ‹_› ‹_›)
  have K136 : ∀ x3 x4 x5 x6 x : Int32, ((isBlk σ b ∧ isWdr y) → x4 = (nbA σ b.toNatClampNeg)) → ((isBlk σ b ∧ isWdr y) → x5 = (nbB σ b.toNatClampNeg)) → x = kEr σ b y → XM w mX9_erect m iv h (fun r σ' => r = some (mEr σ b y).1 ∧ σ' = (mEr σ b y).2) 136 [some (.inr 0), some (.inl b), some (.inl y), some (.inl x3), some (.inl x4), some (.inl x5), some (.inl x6), none, none] [.inl x, .inr 0] σ := by
    intro x3 x4 x5 x6 x hxa hxc hx
    have hA : x = 0 → isBlk σ b ∧ isWdr y := by intro z; unfold kEr at hx; grind
    have h01 : x = 0 ∨ 0 < x := by unfold kEr at hx; grind
    refine qX9_erect_136 hm rfl (c_X9_fails hm) (fun r σ1 hq => ?_)
    obtain ⟨rfl, rfl⟩ := hq
    refine runM_ok rkX9_erect hm (fun p => Nat.beq p 20 || Nat.beq p 47 || Nat.beq p 75 || Nat.beq p 88 || Nat.beq p 99 || Nat.beq p 136 || Nat.beq p 144 || Nat.beq p 187 || Nat.beq p 200 || Nat.beq p 257 || Nat.beq p 273 || Nat.beq p 319 || Nat.beq p 359 || Nat.beq p 403) 200 _ _ _ _ ?_
    refine And.intro (fun c9 => ?_) (fun c9 => ?_)
    · try simp only [b01_eq, b01_ne, Classical.not_not, upS_row] at c9
      have h0 : x = 0 := by grind
      subst h0
      exact K144 _ _ _ _ (hxa (hA rfl)) (hxc (hA rfl)) hx.symm
    · try simp only [b01_eq, b01_ne, Classical.not_not, upS_row] at c9
      refine eP ?_; unfold mEr; rw [if_neg (by grind), ← hx]
  have K99 : ∀ x3 x4 x5 x6 x : Int32, x3 = (if (isBlk σ b ∧ isWdr y) then 1 else 0) → ((isBlk σ b ∧ isWdr y) → x4 = (nbA σ b.toNatClampNeg)) → ((isBlk σ b ∧ isWdr y) → x5 = (nbB σ b.toNatClampNeg)) → x6 = cnx x4 → x = cnx x5 → XM w mX9_erect m iv h (fun r σ' => r = some (mEr σ b y).1 ∧ σ' = (mEr σ b y).2) 99 [some (.inr 0), some (.inl b), some (.inl y), some (.inl x3), some (.inl x4), some (.inl x5), none, none, none] [.inl x, .inl x6] σ := by
    intro x3 x4 x5 x6 x hx3 hxa hxc hx6 hx
    have hkE : isBlk σ b ∧ isWdr y → kEr σ b y = if ¬ 0 < rsn σ b.toNatClampNeg ∧ σ.1 18 + (x6 + x) ≤ 100 then 0 else 2 := by intro z; unfold kEr; rw [if_pos z, hx6, hx, hxa z, hxc z]
    have hkN : ¬ (isBlk σ b ∧ isWdr y) → kEr σ b y = 1 := by intro z; unfold kEr; rw [if_neg z]
    refine runM_go rkX9_erect hm (fun p => Nat.beq p 20 || Nat.beq p 47 || Nat.beq p 75 || Nat.beq p 88 || Nat.beq p 99 || Nat.beq p 136 || Nat.beq p 144 || Nat.beq p 187 || Nat.beq p 200 || Nat.beq p 257 || Nat.beq p 273 || Nat.beq p 319 || Nat.beq p 359 || Nat.beq p 403) 200 ?_
    refine And.intro (fun c10 => ?_) (fun c10 => ?_)
    · try simp only [b01_eq, b01_ne, Classical.not_not, upS_row] at c10
      refine qX9_erect_113 hm rfl (c_X9_reason hm (blk_in (N := 60) hb0 (Int32.le_iff_toInt_le.mp hb1) (by decide) (by grind)) (hrs (by grind)).1 (hrs (by grind)).2.1 (hrs (by grind)).2.2.1 (hrs (by grind)).2.2.2 hf) (fun r σ1 hq => ?_)
      obtain ⟨rfl, rfl⟩ := hq
      refine runM_ok rkX9_erect hm (fun p => Nat.beq p 20 || Nat.beq p 47 || Nat.beq p 75 || Nat.beq p 88 || Nat.beq p 99 || Nat.beq p 136 || Nat.beq p 144 || Nat.beq p 187 || Nat.beq p 200 || Nat.beq p 257 || Nat.beq p 273 || Nat.beq p 319 || Nat.beq p 359 || Nat.beq p 403) 200 _ _ _ _ ?_
      refine And.intro (fun c11 => ?_) (fun c11 => ?_)
      · try simp only [b01_eq, b01_ne, Classical.not_not, upS_row] at c11
        exact K136 _ _ _ _ _ hxa hxc (by grind)
      · try simp only [b01_eq, b01_ne, Classical.not_not, upS_row] at c11
        refine And.intro (fun c12 => ?_) (fun c12 => ?_)
        · try simp only [b01_eq, b01_ne, Classical.not_not, upS_row] at c12
          exact K136 _ _ _ _ _ hxa hxc (by grind)
        · try simp only [b01_eq, b01_ne, Classical.not_not, upS_row] at c12
          exact K136 _ _ _ _ _ hxa hxc (by grind)
    · try simp only [b01_eq, b01_ne, Classical.not_not, upS_row] at c10
      exact K136 _ _ _ _ _ hxa hxc (by grind)
  have K88 : ∀ x3 x4 x5 x : Int32, x3 = (if (isBlk σ b ∧ isWdr y) then 1 else 0) → ((isBlk σ b ∧ isWdr y) → x4 = (nbA σ b.toNatClampNeg)) → ((isBlk σ b ∧ isWdr y) → x5 = (nbB σ b.toNatClampNeg)) → x = cnx x4 → XM w mX9_erect m iv h (fun r σ' => r = some (mEr σ b y).1 ∧ σ' = (mEr σ b y).2) 88 [some (.inr 0), some (.inl b), some (.inl y), some (.inl x3), some (.inl x4), some (.inl x5), none, none, none] [.inl x] σ := by
    intro x3 x4 x5 x hx3 hxa hxc hx
    refine runM_go rkX9_erect hm (fun p => Nat.beq p 20 || Nat.beq p 47 || Nat.beq p 75 || Nat.beq p 88 || Nat.beq p 99 || Nat.beq p 136 || Nat.beq p 144 || Nat.beq p 187 || Nat.beq p 200 || Nat.beq p 257 || Nat.beq p 273 || Nat.beq p 319 || Nat.beq p 359 || Nat.beq p 403) 200 ?_
    refine And.intro (fun c13 => ?_) (fun c13 => ?_)
    · try simp only [b01_eq, b01_ne, Classical.not_not, upS_row] at c13
      exact K99 _ _ _ _ _ hx3 hxa hxc hx (by unfold cnx; grind)
    · try simp only [b01_eq, b01_ne, Classical.not_not, upS_row] at c13
      exact K99 _ _ _ _ _ hx3 hxa hxc hx (by unfold cnx; grind)
  have K75 : ∀ x3 x4 x : Int32, x3 = (if (isBlk σ b ∧ isWdr y) then 1 else 0) → ((isBlk σ b ∧ isWdr y) → x4 = (nbA σ b.toNatClampNeg)) → ((isBlk σ b ∧ isWdr y) → x = (nbB σ b.toNatClampNeg)) → XM w mX9_erect m iv h (fun r σ' => r = some (mEr σ b y).1 ∧ σ' = (mEr σ b y).2) 75 [some (.inr 0), some (.inl b), some (.inl y), some (.inl x3), some (.inl x4), none, none, none, none] [.inl x] σ := by
    intro x3 x4 x hx3 hxa hxc
    refine runM_go rkX9_erect hm (fun p => Nat.beq p 20 || Nat.beq p 47 || Nat.beq p 75 || Nat.beq p 88 || Nat.beq p 99 || Nat.beq p 136 || Nat.beq p 144 || Nat.beq p 187 || Nat.beq p 200 || Nat.beq p 257 || Nat.beq p 273 || Nat.beq p 319 || Nat.beq p 359 || Nat.beq p 403) 200 ?_
    refine And.intro (fun c14 => ?_) (fun c14 => ?_)
    · try simp only [b01_eq, b01_ne, Classical.not_not, upS_row] at c14
      exact K88 _ _ _ _ hx3 hxa hxc (by unfold cnx; grind)
    · try simp only [b01_eq, b01_ne, Classical.not_not, upS_row] at c14
      exact K88 _ _ _ _ hx3 hxa hxc (by unfold cnx; grind)
  have K47 : ∀ x3 x : Int32, x3 = (if (isBlk σ b ∧ isWdr y) then 1 else 0) → ((isBlk σ b ∧ isWdr y) → x = (nbA σ b.toNatClampNeg)) → (¬ (isBlk σ b ∧ isWdr y) → x = -1) → XM w mX9_erect m iv h (fun r σ' => r = some (mEr σ b y).1 ∧ σ' = (mEr σ b y).2) 47 [some (.inr 0), some (.inl b), some (.inl y), some (.inl x3), none, none, none, none, none] [.inl x] σ := by
    intro x3 x hx3 hxa hxb
    refine runM_go rkX9_erect hm (fun p => Nat.beq p 20 || Nat.beq p 47 || Nat.beq p 75 || Nat.beq p 88 || Nat.beq p 99 || Nat.beq p 136 || Nat.beq p 144 || Nat.beq p 187 || Nat.beq p 200 || Nat.beq p 257 || Nat.beq p 273 || Nat.beq p 319 || Nat.beq p 359 || Nat.beq p 403) 200 ?_
    refine And.intro (fun c15 => ?_) (fun c15 => ?_)
    · try simp only [b01_eq, b01_ne, Classical.not_not, upS_row] at c15
      exact K75 _ _ _ hx3 hxa (by first | exact fun _ => rfl | (intro z; grind))
    · try simp only [b01_eq, b01_ne, Classical.not_not, upS_row] at c15
      refine And.intro (blk_in (N := 60) hb0 (Int32.le_iff_toInt_le.mp hb1) (by decide) (by grind)) ?_
      refine And.intro (blk_in (N := 60) hb0 (Int32.le_iff_toInt_le.mp hb1) (by decide) (by grind)) ?_
      refine qX9_erect_68 hm rfl (c_X9_blockAt hm (hrs (by grind)).2.2.2) (fun r σ1 hq => ?_)
      obtain ⟨rfl, rfl⟩ := hq
      refine runM_ok rkX9_erect hm (fun p => Nat.beq p 20 || Nat.beq p 47 || Nat.beq p 75 || Nat.beq p 88 || Nat.beq p 99 || Nat.beq p 136 || Nat.beq p 144 || Nat.beq p 187 || Nat.beq p 200 || Nat.beq p 257 || Nat.beq p 273 || Nat.beq p 319 || Nat.beq p 359 || Nat.beq p 403) 200 _ _ _ _ ?_
      exact K75 _ _ _ hx3 hxa (by first | exact fun _ => rfl | (intro z; grind))
  have K20 : ∀ x : Int32, x = (if (isBlk σ b ∧ isWdr y) then 1 else 0) → XM w mX9_erect m iv h (fun r σ' => r = some (mEr σ b y).1 ∧ σ' = (mEr σ b y).2) 20 [some (.inr 0), some (.inl b), some (.inl y), none, none, none, none, none, none] [.inl x] σ := by
    intro x hx
    refine runM_go rkX9_erect hm (fun p => Nat.beq p 20 || Nat.beq p 47 || Nat.beq p 75 || Nat.beq p 88 || Nat.beq p 99 || Nat.beq p 136 || Nat.beq p 144 || Nat.beq p 187 || Nat.beq p 200 || Nat.beq p 257 || Nat.beq p 273 || Nat.beq p 319 || Nat.beq p 359 || Nat.beq p 403) 200 ?_
    refine And.intro (fun c16 => ?_) (fun c16 => ?_)
    · try simp only [b01_eq, b01_ne, Classical.not_not, upS_row] at c16
      exact K47 _ _ hx (by first | exact fun _ => rfl | (intro z; grind)) (by first | exact fun _ => rfl | (intro z; grind))
    · try simp only [b01_eq, b01_ne, Classical.not_not, upS_row] at c16
      refine And.intro (blk_in (N := 60) hb0 (Int32.le_iff_toInt_le.mp hb1) (by decide) (by grind)) ?_
      refine And.intro (blk_in (N := 60) hb0 (Int32.le_iff_toInt_le.mp hb1) (by decide) (by grind)) ?_
      refine qX9_erect_40 hm rfl (c_X9_blockAt hm (hrs (by grind)).2.2.2) (fun r σ1 hq => ?_)
      obtain ⟨rfl, rfl⟩ := hq
      refine runM_ok rkX9_erect hm (fun p => Nat.beq p 20 || Nat.beq p 47 || Nat.beq p 75 || Nat.beq p 88 || Nat.beq p 99 || Nat.beq p 136 || Nat.beq p 144 || Nat.beq p 187 || Nat.beq p 200 || Nat.beq p 257 || Nat.beq p 273 || Nat.beq p 319 || Nat.beq p 359 || Nat.beq p 403) 200 _ _ _ _ ?_
      exact K47 _ _ hx (by first | exact fun _ => rfl | (intro z; grind)) (by first | exact fun _ => rfl | (intro z; grind))
  refine runM_ok rkX9_erect hm (fun p => Nat.beq p 20 || Nat.beq p 47 || Nat.beq p 75 || Nat.beq p 88 || Nat.beq p 99 || Nat.beq p 136 || Nat.beq p 144 || Nat.beq p 187 || Nat.beq p 200 || Nat.beq p 257 || Nat.beq p 273 || Nat.beq p 319 || Nat.beq p 359 || Nat.beq p 403) 200 _ _ _ _ ?_
  refine qX9_erect_2 hm rfl (c_X9_isBlock hm) (fun r σ1 hq => ?_)
  obtain ⟨rfl, rfl⟩ := hq
  refine runM_ok rkX9_erect hm (fun p => Nat.beq p 20 || Nat.beq p 47 || Nat.beq p 75 || Nat.beq p 88 || Nat.beq p 99 || Nat.beq p 136 || Nat.beq p 144 || Nat.beq p 187 || Nat.beq p 200 || Nat.beq p 257 || Nat.beq p 273 || Nat.beq p 319 || Nat.beq p 359 || Nat.beq p 403) 200 _ _ _ _ ?_
  refine And.intro (fun c17 => ?_) (fun c17 => ?_)
  · try simp only [b01_eq, b01_ne, Classical.not_not, upS_row] at c17
    exact K20 _ (by grind)
  · try simp only [b01_eq, b01_ne, Classical.not_not, upS_row] at c17
    refine qX9_erect_9 rfl c_X9_isWelder ?_
    refine runM_ok rkX9_erect hm (fun p => Nat.beq p 20 || Nat.beq p 47 || Nat.beq p 75 || Nat.beq p 88 || Nat.beq p 99 || Nat.beq p 136 || Nat.beq p 144 || Nat.beq p 187 || Nat.beq p 200 || Nat.beq p 257 || Nat.beq p 273 || Nat.beq p 319 || Nat.beq p 359 || Nat.beq p 403) 200 _ _ _ _ ?_
    refine And.intro (fun c18 => ?_) (fun c18 => ?_)
    · try simp only [b01_eq, b01_ne, Classical.not_not, upS_row] at c18
      exact K20 _ (by grind)
    · try simp only [b01_eq, b01_ne, Classical.not_not, upS_row] at c18
      exact K20 _ (by grind)

/-! THE MODEL'S CONTRACTS, 9: erect -/
def cnx (x : Int32) : Int32 := if x = -1 then 0 else 1
def nbA (σ : MS) (i : Nat) : Int32 := bAt σ (σ.2 10 i - 1) (σ.2 12 i)
def nbB (σ : MS) (i : Nat) : Int32 := bAt σ (σ.2 11 i + 1) (σ.2 12 i)
def kEr (σ : MS) (b y : Int32) : Int32 := if isBlk σ b ∧ isWdr y then if ¬ 0 < rsn σ b.toNatClampNeg ∧ σ.1 18 + (cnx (nbA σ b.toNatClampNeg) + cnx (nbB σ b.toNatClampNeg)) ≤ 100 then 0 else 2 else 1
def cutE (σ : MS) (i : Nat) (a c : Int32) : Int32 := if ¬ a = -1 ∧ ¬ c = -1 then (if 0 < σ.2 14 i - spc σ a c then σ.2 14 i - spc σ a c else 0) else 0
def erA (σ : MS) (i : Nat) (a c : Int32) : MS := if ¬ a = -1 ∧ ¬ c = -1 then upA σ 14 i (σ.2 14 i - cutE σ i a c) else σ
def begE (σ : MS) (i : Nat) (a c : Int32) : Int32 := if ¬ a = -1 then eOf σ a + 4 else if ¬ c = -1 then σ.2 16 c.toNatClampNeg - 4 - σ.2 14 i else 1000 * σ.2 10 i
def erB (σ : MS) (i : Nat) (a c : Int32) : MS := upA (upA (erA σ i a c) 16 i (begE (erA σ i a c) i a c)) 9 i 2
def flS (σ : MS) (v b : Int32) (lo : Nat) : Nat → MS
  | 0 => σ
  | n + 1 => upS (upA (flS σ v b lo n) 25 (12 * v + nI (lo + n)).toNatClampNeg b) 7 ((flS σ v b lo n).1 7 + 100)
def erC (σ : MS) (i : Nat) (b a c : Int32) : MS := flS (erB σ i a c) (σ.2 12 i) b (σ.2 10 i).toNatClampNeg ((σ.2 11 i).toNatClampNeg + 1 - (σ.2 10 i).toNatClampNeg)
def erD (σ : MS) (f v a : Int32) (y : Nat) : MS := if ¬ a = -1 then sSpo (sMak σ (-1) f v y) f v else σ
def sEr (σ : MS) (i : Nat) (b a c : Int32) (y : Nat) : MS := erD (erD (erC σ i b a c) (σ.2 10 i) (σ.2 12 i) a y) (σ.2 11 i + 1) (σ.2 12 i) c y
def mEr (σ : MS) (b y : Int32) : Int32 × MS := if kEr σ b y = 0 then (cutE σ b.toNatClampNeg (nbA σ b.toNatClampNeg) (nbB σ b.toNatClampNeg), sEr (upS σ 34 0) b.toNatClampNeg b (nbA σ b.toNatClampNeg) (nbB σ b.toNatClampNeg) y.toNatClampNeg) else (0, upS σ 34 (kEr σ b y))
theorem flS_row {σ : MS} {v b : Int32} {lo k : Nat} (hk : k ≠ 25) : ∀ n, (flS σ v b lo n).2 k = σ.2 k
  | 0 => rfl
  | n + 1 => by
    have ih := flS_row (σ := σ) (v := v) (b := b) (lo := lo) hk n
    funext i
    show (if k = 25 ∧ i = _ then b else (flS σ v b lo n).2 k i) = _
    rw [if_neg (fun z => hk z.1), ih]
theorem flS_num {σ : MS} {v b : Int32} {lo k : Nat} (hk : k ≠ 7) : ∀ n, (flS σ v b lo n).1 k = σ.1 k
  | 0 => rfl
  | n + 1 => by
    have ih := flS_num (σ := σ) (v := v) (b := b) (lo := lo) hk n
    show (if k = 7 then _ else (flS σ v b lo n).1 k) = _
    rw [if_neg hk, ih]
theorem erA_row {σ : MS} {i k : Nat} {a c : Int32} (hk : k ≠ 14) : (erA σ i a c).2 k = σ.2 k := by
  unfold erA
  split
  · funext j
    show (if k = 14 ∧ j = i then _ else σ.2 k j) = _
    rw [if_neg (fun z => hk z.1)]
  · rfl
theorem erA_num {σ : MS} {i : Nat} {a c : Int32} : (erA σ i a c).1 = σ.1 := by
  unfold erA
  split <;> rfl
theorem erB_row {σ : MS} {i k : Nat} {a c : Int32} (h1 : k ≠ 14) (h2 : k ≠ 16) (h3 : k ≠ 9) : (erB σ i a c).2 k = σ.2 k := by
  funext j
  show (if k = 9 ∧ j = i then _ else if k = 16 ∧ j = i then _ else (erA σ i a c).2 k j) = _
  rw [if_neg (fun z => h3 z.1), if_neg (fun z => h2 z.1), erA_row h1]
theorem erB_num {σ : MS} {i : Nat} {a c : Int32} : (erB σ i a c).1 = σ.1 := erA_num
theorem erC_row {σ : MS} {i k : Nat} {b a c : Int32} (h1 : k ≠ 14) (h2 : k ≠ 16) (h3 : k ≠ 9) (h4 : k ≠ 25) : (erC σ i b a c).2 k = σ.2 k := by
  unfold erC
  rw [flS_row h4, erB_row h1 h2 h3]
theorem erC_num {σ : MS} {i k : Nat} {b a c : Int32} (h : k ≠ 7) : (erC σ i b a c).1 k = σ.1 k := by
  unfold erC
  rw [flS_num h, erB_num]
theorem sDrw_row {σ : MS} {j k y : Nat} (h1 : k ≠ 19) (h2 : k ≠ 20) : (sDrw σ j y).2 k = σ.2 k := by
  funext i
  show (if k = 19 ∧ i = j then _ else if k = 20 ∧ i = j then _ else σ.2 k i) = _
  rw [if_neg (fun z => h1 z.1), if_neg (fun z => h2 z.1)]
theorem sMak_row {σ : MS} {b f v : Int32} {k y : Nat} (h1 : k < 19 ∨ 24 < k) : (sMak σ b f v y).2 k = σ.2 k := by
  unfold sMak
  rw [sDrw_row (by omega) (by omega)]
  funext i
  show (if k = 24 ∧ i = _ then _ else if k = 23 ∧ i = _ then _ else if k = 22 ∧ i = _ then _ else if k = 21 ∧ i = _ then _ else σ.2 k i) = _
  rw [if_neg (fun z => by have := z.1; omega), if_neg (fun z => by have := z.1; omega), if_neg (fun z => by have := z.1; omega), if_neg (fun z => by have := z.1; omega)]
theorem sMak_num {σ : MS} {b f v : Int32} {k y : Nat} (h1 : k ≠ 4) (h2 : k ≠ 7) (h3 : k ≠ 18) : (sMak σ b f v y).1 k = σ.1 k := by
  show (if k = 4 then _ else if k = 7 then _ else if k = 18 then _ else σ.1 k) = _
  rw [if_neg h1, if_neg h2, if_neg h3]

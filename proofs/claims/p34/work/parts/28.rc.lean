/-! THE COMPONENT'S HEAP: our tags; what the heap is where the state is σ -/
def tB (i : Nat) : Nat := 8 * i
def tW (i : Nat) : Nat := 8 * i + 1
def tR (i : Nat) : Nat := 8 * i + 2
def tP (i : Nat) : Nat := 8 * i + 3
def tC (i : Nat) : Nat := 8 * i + 4
def tS (i : Nat) : Nat := 8 * i + 5
theorem tB_inj {i j : Nat} : tB i = tB j ↔ i = j := by unfold tB; omega
theorem tB_W {i j : Nat} : (tB i = tW j) ↔ False := ⟨fun z => by unfold tB tW at z; omega, False.elim⟩
theorem tB_R {i j : Nat} : (tB i = tR j) ↔ False := ⟨fun z => by unfold tB tR at z; omega, False.elim⟩
theorem tB_P {i j : Nat} : (tB i = tP j) ↔ False := ⟨fun z => by unfold tB tP at z; omega, False.elim⟩
theorem tB_C {i j : Nat} : (tB i = tC j) ↔ False := ⟨fun z => by unfold tB tC at z; omega, False.elim⟩
theorem tB_S {i j : Nat} : (tB i = tS j) ↔ False := ⟨fun z => by unfold tB tS at z; omega, False.elim⟩
theorem tW_inj {i j : Nat} : tW i = tW j ↔ i = j := by unfold tW; omega
theorem tW_B {i j : Nat} : (tW i = tB j) ↔ False := ⟨fun z => by unfold tW tB at z; omega, False.elim⟩
theorem tW_R {i j : Nat} : (tW i = tR j) ↔ False := ⟨fun z => by unfold tW tR at z; omega, False.elim⟩
theorem tW_P {i j : Nat} : (tW i = tP j) ↔ False := ⟨fun z => by unfold tW tP at z; omega, False.elim⟩
theorem tW_C {i j : Nat} : (tW i = tC j) ↔ False := ⟨fun z => by unfold tW tC at z; omega, False.elim⟩
theorem tW_S {i j : Nat} : (tW i = tS j) ↔ False := ⟨fun z => by unfold tW tS at z; omega, False.elim⟩
theorem tR_inj {i j : Nat} : tR i = tR j ↔ i = j := by unfold tR; omega
theorem tR_B {i j : Nat} : (tR i = tB j) ↔ False := ⟨fun z => by unfold tR tB at z; omega, False.elim⟩
theorem tR_W {i j : Nat} : (tR i = tW j) ↔ False := ⟨fun z => by unfold tR tW at z; omega, False.elim⟩
theorem tR_P {i j : Nat} : (tR i = tP j) ↔ False := ⟨fun z => by unfold tR tP at z; omega, False.elim⟩
theorem tR_C {i j : Nat} : (tR i = tC j) ↔ False := ⟨fun z => by unfold tR tC at z; omega, False.elim⟩
theorem tR_S {i j : Nat} : (tR i = tS j) ↔ False := ⟨fun z => by unfold tR tS at z; omega, False.elim⟩
theorem tP_inj {i j : Nat} : tP i = tP j ↔ i = j := by unfold tP; omega
theorem tP_B {i j : Nat} : (tP i = tB j) ↔ False := ⟨fun z => by unfold tP tB at z; omega, False.elim⟩
theorem tP_W {i j : Nat} : (tP i = tW j) ↔ False := ⟨fun z => by unfold tP tW at z; omega, False.elim⟩
theorem tP_R {i j : Nat} : (tP i = tR j) ↔ False := ⟨fun z => by unfold tP tR at z; omega, False.elim⟩
theorem tP_C {i j : Nat} : (tP i = tC j) ↔ False := ⟨fun z => by unfold tP tC at z; omega, False.elim⟩
theorem tP_S {i j : Nat} : (tP i = tS j) ↔ False := ⟨fun z => by unfold tP tS at z; omega, False.elim⟩
theorem tC_inj {i j : Nat} : tC i = tC j ↔ i = j := by unfold tC; omega
theorem tC_B {i j : Nat} : (tC i = tB j) ↔ False := ⟨fun z => by unfold tC tB at z; omega, False.elim⟩
theorem tC_W {i j : Nat} : (tC i = tW j) ↔ False := ⟨fun z => by unfold tC tW at z; omega, False.elim⟩
theorem tC_R {i j : Nat} : (tC i = tR j) ↔ False := ⟨fun z => by unfold tC tR at z; omega, False.elim⟩
theorem tC_P {i j : Nat} : (tC i = tP j) ↔ False := ⟨fun z => by unfold tC tP at z; omega, False.elim⟩
theorem tC_S {i j : Nat} : (tC i = tS j) ↔ False := ⟨fun z => by unfold tC tS at z; omega, False.elim⟩
theorem tS_inj {i j : Nat} : tS i = tS j ↔ i = j := by unfold tS; omega
theorem tS_B {i j : Nat} : (tS i = tB j) ↔ False := ⟨fun z => by unfold tS tB at z; omega, False.elim⟩
theorem tS_W {i j : Nat} : (tS i = tW j) ↔ False := ⟨fun z => by unfold tS tW at z; omega, False.elim⟩
theorem tS_R {i j : Nat} : (tS i = tR j) ↔ False := ⟨fun z => by unfold tS tR at z; omega, False.elim⟩
theorem tS_P {i j : Nat} : (tS i = tP j) ↔ False := ⟨fun z => by unfold tS tP at z; omega, False.elim⟩
theorem tS_C {i j : Nat} : (tS i = tC j) ↔ False := ⟨fun z => by unfold tS tC at z; omega, False.elim⟩
def SG (κ : AH) : Prop := gT κ (tS 0) = 2 ∧ gT κ (tS 1) = 3 ∧ gT κ (tS 2) = 6 ∧ gT κ (tS 3) = 8 ∧ gT κ (tS 4) = 9 ∧ gT κ (tS 5) = 14 ∧ gT κ (tS 6) = 15 ∧ gT κ (tS 7) = 16 ∧ gT κ (tS 8) = 17 ∧ gT κ (tS 9) = 11 ∧ gT κ (tS 10) = 11 ∧ gN κ (tS 5) = 60 ∧ gN κ (tS 6) = 100 ∧ gN κ (tS 7) = 30 ∧ gN κ (tS 8) = 36 ∧ gN κ (tS 9) = 4 ∧ gN κ (tS 10) = 337 ∧ gR κ (tS 4) 0 = some (tS 5) ∧ gR κ (tS 4) 1 = some (tS 6) ∧ gR κ (tS 4) 2 = some (tS 7) ∧ gR κ (tS 4) 3 = some (tS 0) ∧ gR κ (tS 4) 4 = some (tS 2) ∧ gR κ (tS 4) 5 = some (tS 3) ∧ gR κ (tS 4) 6 = some (tS 1) ∧ gR κ (tS 0) 0 = some (tS 8) ∧ gR κ (tS 1) 0 = some (tS 10) ∧ gR κ (tS 2) 0 = some (tS 0) ∧ gR κ (tS 3) 0 = some (tS 9)
theorem SG.t0 {κ : AH} (h : SG κ) : gT κ (tS 0) = 2 := h.1
theorem SG.t1 {κ : AH} (h : SG κ) : gT κ (tS 1) = 3 := h.2.1
theorem SG.t2 {κ : AH} (h : SG κ) : gT κ (tS 2) = 6 := h.2.2.1
theorem SG.t3 {κ : AH} (h : SG κ) : gT κ (tS 3) = 8 := h.2.2.2.1
theorem SG.t4 {κ : AH} (h : SG κ) : gT κ (tS 4) = 9 := h.2.2.2.2.1
theorem SG.t5 {κ : AH} (h : SG κ) : gT κ (tS 5) = 14 := h.2.2.2.2.2.1
theorem SG.t6 {κ : AH} (h : SG κ) : gT κ (tS 6) = 15 := h.2.2.2.2.2.2.1
theorem SG.t7 {κ : AH} (h : SG κ) : gT κ (tS 7) = 16 := h.2.2.2.2.2.2.2.1
theorem SG.t8 {κ : AH} (h : SG κ) : gT κ (tS 8) = 17 := h.2.2.2.2.2.2.2.2.1
theorem SG.t9 {κ : AH} (h : SG κ) : gT κ (tS 9) = 11 := h.2.2.2.2.2.2.2.2.2.1
theorem SG.t10 {κ : AH} (h : SG κ) : gT κ (tS 10) = 11 := h.2.2.2.2.2.2.2.2.2.2.1
theorem SG.n5 {κ : AH} (h : SG κ) : gN κ (tS 5) = 60 := h.2.2.2.2.2.2.2.2.2.2.2.1
theorem SG.n6 {κ : AH} (h : SG κ) : gN κ (tS 6) = 100 := h.2.2.2.2.2.2.2.2.2.2.2.2.1
theorem SG.n7 {κ : AH} (h : SG κ) : gN κ (tS 7) = 30 := h.2.2.2.2.2.2.2.2.2.2.2.2.2.1
theorem SG.n8 {κ : AH} (h : SG κ) : gN κ (tS 8) = 36 := h.2.2.2.2.2.2.2.2.2.2.2.2.2.2.1
theorem SG.n9 {κ : AH} (h : SG κ) : gN κ (tS 9) = 4 := h.2.2.2.2.2.2.2.2.2.2.2.2.2.2.2.1
theorem SG.n10 {κ : AH} (h : SG κ) : gN κ (tS 10) = 337 := h.2.2.2.2.2.2.2.2.2.2.2.2.2.2.2.2.1
theorem SG.r40 {κ : AH} (h : SG κ) : gR κ (tS 4) 0 = some (tS 5) := h.2.2.2.2.2.2.2.2.2.2.2.2.2.2.2.2.2.1
theorem SG.r41 {κ : AH} (h : SG κ) : gR κ (tS 4) 1 = some (tS 6) := h.2.2.2.2.2.2.2.2.2.2.2.2.2.2.2.2.2.2.1
theorem SG.r42 {κ : AH} (h : SG κ) : gR κ (tS 4) 2 = some (tS 7) := h.2.2.2.2.2.2.2.2.2.2.2.2.2.2.2.2.2.2.2.1
theorem SG.r43 {κ : AH} (h : SG κ) : gR κ (tS 4) 3 = some (tS 0) := h.2.2.2.2.2.2.2.2.2.2.2.2.2.2.2.2.2.2.2.2.1
theorem SG.r44 {κ : AH} (h : SG κ) : gR κ (tS 4) 4 = some (tS 2) := h.2.2.2.2.2.2.2.2.2.2.2.2.2.2.2.2.2.2.2.2.2.1
theorem SG.r45 {κ : AH} (h : SG κ) : gR κ (tS 4) 5 = some (tS 3) := h.2.2.2.2.2.2.2.2.2.2.2.2.2.2.2.2.2.2.2.2.2.2.1
theorem SG.r46 {κ : AH} (h : SG κ) : gR κ (tS 4) 6 = some (tS 1) := h.2.2.2.2.2.2.2.2.2.2.2.2.2.2.2.2.2.2.2.2.2.2.2.1
theorem SG.r00 {κ : AH} (h : SG κ) : gR κ (tS 0) 0 = some (tS 8) := h.2.2.2.2.2.2.2.2.2.2.2.2.2.2.2.2.2.2.2.2.2.2.2.2.1
theorem SG.r10 {κ : AH} (h : SG κ) : gR κ (tS 1) 0 = some (tS 10) := h.2.2.2.2.2.2.2.2.2.2.2.2.2.2.2.2.2.2.2.2.2.2.2.2.2.1
theorem SG.r20 {κ : AH} (h : SG κ) : gR κ (tS 2) 0 = some (tS 0) := h.2.2.2.2.2.2.2.2.2.2.2.2.2.2.2.2.2.2.2.2.2.2.2.2.2.2.1
theorem SG.r30 {κ : AH} (h : SG κ) : gR κ (tS 3) 0 = some (tS 9) := h.2.2.2.2.2.2.2.2.2.2.2.2.2.2.2.2.2.2.2.2.2.2.2.2.2.2.2
theorem SG_sR {κ : AH} {a k : Nat} {v : Option Nat} (h : SG κ) (ha : ∀ i, i < 5 → a ≠ tS i) : SG (sR κ a k v) := by
  have e : ∀ i j, i < 5 → gR (sR κ a k v) (tS i) j = gR κ (tS i) j := fun i j hi => by rw [gR_sR, if_neg (fun z => ha i hi z.1.symm)]
  exact ⟨h.t0, h.t1, h.t2, h.t3, h.t4, h.t5, h.t6, h.t7, h.t8, h.t9, h.t10, h.n5, h.n6, h.n7, h.n8, h.n9, h.n10, (e _ _ (by decide)).trans h.r40, (e _ _ (by decide)).trans h.r41, (e _ _ (by decide)).trans h.r42, (e _ _ (by decide)).trans h.r43, (e _ _ (by decide)).trans h.r44, (e _ _ (by decide)).trans h.r45, (e _ _ (by decide)).trans h.r46, (e _ _ (by decide)).trans h.r00, (e _ _ (by decide)).trans h.r10, (e _ _ (by decide)).trans h.r20, (e _ _ (by decide)).trans h.r30⟩
theorem SG_nO {κ : AH} {a c n : Nat} (h : SG κ) (ha : ∀ i, i < 11 → a ≠ tS i) : SG (nO κ a c n) := by
  have e1 : ∀ i, i < 11 → gT (nO κ a c n) (tS i) = gT κ (tS i) := fun i hi => by rw [gT_nO, if_neg (fun z => ha i hi z.symm)]
  have e2 : ∀ i, i < 11 → gN (nO κ a c n) (tS i) = gN κ (tS i) := fun i hi => by rw [gN_nO, if_neg (fun z => ha i hi z.symm)]
  have e3 : ∀ i j, i < 11 → gR (nO κ a c n) (tS i) j = gR κ (tS i) j := fun i j hi => by rw [gR_nO, if_neg (fun z => ha i hi z.symm)]
  exact ⟨(e1 _ (by decide)).trans h.t0, (e1 _ (by decide)).trans h.t1, (e1 _ (by decide)).trans h.t2, (e1 _ (by decide)).trans h.t3, (e1 _ (by decide)).trans h.t4, (e1 _ (by decide)).trans h.t5, (e1 _ (by decide)).trans h.t6, (e1 _ (by decide)).trans h.t7, (e1 _ (by decide)).trans h.t8, (e1 _ (by decide)).trans h.t9, (e1 _ (by decide)).trans h.t10, (e2 _ (by decide)).trans h.n5, (e2 _ (by decide)).trans h.n6, (e2 _ (by decide)).trans h.n7, (e2 _ (by decide)).trans h.n8, (e2 _ (by decide)).trans h.n9, (e2 _ (by decide)).trans h.n10, (e3 _ _ (by decide)).trans h.r40, (e3 _ _ (by decide)).trans h.r41, (e3 _ _ (by decide)).trans h.r42, (e3 _ _ (by decide)).trans h.r43, (e3 _ _ (by decide)).trans h.r44, (e3 _ _ (by decide)).trans h.r45, (e3 _ _ (by decide)).trans h.r46, (e3 _ _ (by decide)).trans h.r00, (e3 _ _ (by decide)).trans h.r10, (e3 _ _ (by decide)).trans h.r20, (e3 _ _ (by decide)).trans h.r30⟩
def refO (x : Int32) : Option Nat := if x = -1 then none else some (tB x.toNatClampNeg)
def pB (κ : AH) (σ : MS) (i : Nat) : Prop := gT κ (tB i) = 1 ∧ gI κ (tB i) 0 = nI i ∧ gI κ (tB i) 1 = σ.2 10 i ∧ gI κ (tB i) 2 = σ.2 11 i ∧ gI κ (tB i) 3 = σ.2 12 i ∧ gI κ (tB i) 4 = σ.2 13 i ∧ gI κ (tB i) 5 = σ.2 15 i ∧ gI κ (tB i) 6 = σ.2 14 i ∧ (σ.2 9 i = 2 → gI κ (tB i) 7 = σ.2 16 i) ∧ gI κ (tB i) 8 = σ.2 9 i ∧ gR κ (tB i) 9 = refO (σ.2 17 i)
def pWl (κ : AH) (σ : MS) (k j : Nat) : Prop := gT κ (tW k) = 7 ∧ gR κ (tW k) 0 = some (tB j) ∧ gI κ (tW k) 1 = σ.2 22 k ∧ gI κ (tW k) 2 = σ.2 19 k ∧ gI κ (tW k) 3 = σ.2 21 k ∧ gI κ (tW k) 4 = σ.2 20 k
def wbK (σ : MS) (nb k j : Nat) : Prop := j < nb ∧ σ.2 12 j = σ.2 23 k ∧ (σ.2 24 k = -1 → σ.2 9 j = 2 ∧ σ.2 17 j = -1) ∧ (¬ σ.2 24 k = -1 → σ.2 24 k = nI j)
def pRm (κ : AH) (σ : MS) (c : Nat) : Prop := gT κ (tR c) = 5 ∧ gI κ (tR c) 0 = nI c ∧ gR κ (tR c) 1 = some (tB (σ.2 25 c).toNatClampNeg) ∧ gI κ (tR c) 2 = σ.2 26 c ∧ gI κ (tR c) 3 = σ.2 27 c ∧ gI κ (tR c) 4 = σ.2 28 c ∧ gI κ (tR c) 5 = σ.2 29 c
def pP (κ : AH) (σ : MS) (p : Nat) : Prop := gT κ (tP p) = 4 ∧ gR κ (tP p) 0 = some (tC p) ∧ gT κ (tC p) = 11 ∧ gN κ (tC p) = (σ.2 31 p).toNatClampNeg ∧ ∀ j, j < (σ.2 31 p).toNatClampNeg → gI κ (tC p) j = σ.2 32 (36 * p + j)
/-- blocks -/
def hB (κ : AH) (σ : MS) (nb : Nat) : Prop := (∀ i, i < 60 → gR κ (tS 5) i = if i < nb then some (tB i) else none) ∧ (∀ i, i < nb → pB κ σ i) ∧ ∀ i, nb ≤ i → gT κ (tB i) = 0
/-- welds -/
def hW (κ : AH) (σ : MS) (nb nw : Nat) (wb : Nat → Nat) : Prop := (∀ k, k < 100 → gR κ (tS 6) k = if k < nw then some (tW k) else none) ∧ (∀ k, k < nw → pWl κ σ k (wb k) ∧ wbK σ nb k (wb k)) ∧ ∀ k, nw ≤ k → gT κ (tW k) = 0
/-- rooms -/
def hRm (κ : AH) (σ : MS) (nb : Nat) : Prop := (∀ c, c < 36 → gR κ (tS 8) c = if σ.2 25 c = -1 then none else some (tR c)) ∧ (∀ c, c < 36 → ¬ σ.2 25 c = -1 → pRm κ σ c ∧ ∃ j, j < nb ∧ σ.2 25 c = nI j) ∧ ∀ c, c < 36 → σ.2 25 c = -1 → gT κ (tR c) = 0
/-- pipes -/
def hPi (κ : AH) (σ : MS) (np : Nat) : Prop := (∀ p, p < 30 → gR κ (tS 7) p = if p < np then some (tP p) else none) ∧ (∀ p, p < np → pP κ σ p) ∧ ∀ p, np ≤ p → gT κ (tP p) = 0 ∧ gT κ (tC p) = 0
def rmO (σ : MS) (x : Int32) : Option Nat := if isRm σ x then some (tR x.toNatClampNeg) else none
theorem rmO_y {σ : MS} {x : Int32} (h : isRm σ x) : rmO σ x = some (tR x.toNatClampNeg) := if_pos h
theorem rmO_n {σ : MS} {x : Int32} (h : ¬ isRm σ x) : rmO σ x = none := if_neg h
abbrev isB (nb : Nat) (x : Int32) : Prop := 0 ≤ x ∧ x < nI nb
def blO (nb : Nat) (x : Int32) : Option Nat := if isB nb x then some (tB x.toNatClampNeg) else none
def wlO (nw : Nat) (x : Int32) : Option Nat := if isB nw x then some (tW x.toNatClampNeg) else none
theorem in_lt {x c : Int32} {n : Nat} (hn : c.toInt = n) (h0 : ¬ x < 0) (h1 : ¬ c ≤ x) : vp_in x n := in_of (Int32.not_lt.mp h0) (by
  have := Int32.lt_iff_toInt_lt.mp (Int32.not_le.mp h1)
  omega)
theorem isB_lt {nb n : Nat} {x : Int32} (h : vp_in x n) (hn : n < 2 ^ 31) (hb : nb ≤ n) : isB nb x ↔ x.toNatClampNeg < nb := by
  obtain ⟨j, hj, rfl⟩ := vp_in_of h hn
  rw [nI_clamp (by omega)]
  exact ⟨fun z => (nI_ltI (by omega) (by omega)).mp z.2, fun z => ⟨nI_pos' (by omega), nI_lt z (by omega)⟩⟩
theorem isRm_of {σ : MS} {x : Int32} (h0 : ¬ x < 0) (h1 : ¬ 36 ≤ x) : isRm σ x ↔ ¬ σ.2 25 x.toNatClampNeg = -1 := by
  refine ⟨fun z => z.2, fun z => ⟨⟨Int32.not_lt.mp h0, ?_⟩, z⟩⟩
  have := Int32.lt_iff_toInt_lt.mp (Int32.not_le.mp h1)
  have e : (36 : Int32).toInt = 36 := rfl
  have e2 : (35 : Int32).toInt = 35 := rfl
  rw [Int32.le_iff_toInt_le]; omega
theorem not_isRm {σ : MS} {x : Int32} (h : x < 0 ∨ 36 ≤ x) : ¬ isRm σ x := by
  intro z
  rcases h with h | h
  · exact Int32.not_le.mpr h z.1.1
  · have h1 := Int32.le_iff_toInt_le.mp h
    have h2 := Int32.le_iff_toInt_le.mp z.1.2
    have e : (36 : Int32).toInt = 36 := rfl
    have e2 : (35 : Int32).toInt = 35 := rfl
    omega

/-! WHAT ALWAYS HOLDS: the model's state (IV), the component's heap (RC); what a change leaves -/
def tM (i : Nat) : Nat := 8 * i + 6
theorem tM_B {i j : Nat} : (tM i = tB j) ↔ False := ⟨fun z => by unfold tM tB at z; omega, False.elim⟩
theorem tB_M {i j : Nat} : (tB i = tM j) ↔ False := ⟨fun z => by unfold tM tB at z; omega, False.elim⟩
theorem tM_W {i j : Nat} : (tM i = tW j) ↔ False := ⟨fun z => by unfold tM tW at z; omega, False.elim⟩
theorem tW_M {i j : Nat} : (tW i = tM j) ↔ False := ⟨fun z => by unfold tM tW at z; omega, False.elim⟩
theorem tM_R {i j : Nat} : (tM i = tR j) ↔ False := ⟨fun z => by unfold tM tR at z; omega, False.elim⟩
theorem tR_M {i j : Nat} : (tR i = tM j) ↔ False := ⟨fun z => by unfold tM tR at z; omega, False.elim⟩
theorem tM_P {i j : Nat} : (tM i = tP j) ↔ False := ⟨fun z => by unfold tM tP at z; omega, False.elim⟩
theorem tP_M {i j : Nat} : (tP i = tM j) ↔ False := ⟨fun z => by unfold tM tP at z; omega, False.elim⟩
theorem tM_C {i j : Nat} : (tM i = tC j) ↔ False := ⟨fun z => by unfold tM tC at z; omega, False.elim⟩
theorem tC_M {i j : Nat} : (tC i = tM j) ↔ False := ⟨fun z => by unfold tM tC at z; omega, False.elim⟩
theorem tM_S {i j : Nat} : (tM i = tS j) ↔ False := ⟨fun z => by unfold tM tS at z; omega, False.elim⟩
theorem tS_M {i j : Nat} : (tS i = tM j) ↔ False := ⟨fun z => by unfold tM tS at z; omega, False.elim⟩
theorem tM_inj {i j : Nat} : tM i = tM j ↔ i = j := by unfold tM; omega

/-- two heaps are the same but at the addresses S -/
def Dif (S : Nat → Prop) (κ κ' : AH) : Prop := ∀ t, ¬ S t → gT κ' t = gT κ t ∧ gN κ' t = gN κ t ∧ (∀ k, gI κ' t k = gI κ t k) ∧ ∀ k, gR κ' t k = gR κ t k
theorem Dif.rfl' {S : Nat → Prop} {κ : AH} : Dif S κ κ := fun _ _ => ⟨rfl, rfl, fun _ => rfl, fun _ => rfl⟩
theorem Dif.tr {S : Nat → Prop} {κ κ' κ'' : AH} (h : Dif S κ κ') (h' : Dif S κ' κ'') : Dif S κ κ'' := fun t ht => by
  obtain ⟨a, b, c, d⟩ := h t ht
  obtain ⟨a', b', c', d'⟩ := h' t ht
  exact ⟨a'.trans a, b'.trans b, fun k => (c' k).trans (c k), fun k => (d' k).trans (d k)⟩
theorem Dif.mono {S S' : Nat → Prop} {κ κ' : AH} (h : Dif S κ κ') (hs : ∀ t, S t → S' t) : Dif S' κ κ' := fun t ht => h t (fun z => ht (hs t z))
theorem Dif.sI {S : Nat → Prop} {κ κ1 : AH} {o k : Nat} {v : Int32} (h : Dif S κ κ1) (ho : S o) : Dif S κ (sI κ1 o k v) := h.tr fun t ht => ⟨rfl, rfl, fun j => by rw [gI_sI, if_neg (fun z : t = o ∧ j = k => ht (by rw [z.1]; exact ho))], fun _ => rfl⟩
theorem Dif.sR {S : Nat → Prop} {κ κ1 : AH} {o k : Nat} {v : Option Nat} (h : Dif S κ κ1) (ho : S o) : Dif S κ (sR κ1 o k v) := h.tr fun t ht => ⟨rfl, rfl, fun _ => rfl, fun j => by rw [gR_sR, if_neg (fun z : t = o ∧ j = k => ht (by rw [z.1]; exact ho))]⟩
theorem Dif.nO {S : Nat → Prop} {κ κ1 : AH} {o c n : Nat} (h : Dif S κ κ1) (ho : S o) : Dif S κ (nO κ1 o c n) := h.tr fun t ht => by
  have hne : ¬ t = o := fun z => ht (by rw [z]; exact ho)
  exact ⟨by rw [gT_nO, if_neg hne], by rw [gN_nO, if_neg hne], fun j => by rw [gI_nO, if_neg hne], fun j => by rw [gR_nO, if_neg hne]⟩
/-- nothing of the model's and the law's objects has changed -/
def FM (κ κ' : AH) : Prop := ∀ i, gT κ' (tM i) = gT κ (tM i) ∧ gN κ' (tM i) = gN κ (tM i) ∧ (∀ k, gI κ' (tM i) k = gI κ (tM i) k) ∧ ∀ k, gR κ' (tM i) k = gR κ (tM i) k
theorem FM.refl (κ : AH) : FM κ κ := fun _ => ⟨rfl, rfl, fun _ => rfl, fun _ => rfl⟩
theorem FM.tr {κ κ' κ'' : AH} (h : FM κ κ') (h' : FM κ' κ'') : FM κ κ'' := fun t => by
  obtain ⟨a, b, c, d⟩ := h t
  obtain ⟨a', b', c', d'⟩ := h' t
  exact ⟨a'.trans a, b'.trans b, fun k => (c' k).trans (c k), fun k => (d' k).trans (d k)⟩
theorem FM_d {S : Nat → Prop} {κ κ' : AH} (D : Dif S κ κ') (h : ∀ i, ¬ S (tM i)) : FM κ κ' := fun i => D _ (h i)
theorem SG_d {S : Nat → Prop} {κ κ' : AH} (D : Dif S κ κ') (h : ∀ i, i < 11 → ¬ S (tS i)) (G : SG κ) : SG κ' := by
  have a := fun i (hi : i < 11) => D _ (h i hi)
  exact ⟨(a 0 (by decide)).1.trans G.t0, (a 1 (by decide)).1.trans G.t1, (a 2 (by decide)).1.trans G.t2, (a 3 (by decide)).1.trans G.t3, (a 4 (by decide)).1.trans G.t4, (a 5 (by decide)).1.trans G.t5, (a 6 (by decide)).1.trans G.t6, (a 7 (by decide)).1.trans G.t7, (a 8 (by decide)).1.trans G.t8, (a 9 (by decide)).1.trans G.t9, (a 10 (by decide)).1.trans G.t10, (a 5 (by decide)).2.1.trans G.n5, (a 6 (by decide)).2.1.trans G.n6, (a 7 (by decide)).2.1.trans G.n7, (a 8 (by decide)).2.1.trans G.n8, (a 9 (by decide)).2.1.trans G.n9, (a 10 (by decide)).2.1.trans G.n10, ((a 4 (by decide)).2.2.2 _).trans G.r40, ((a 4 (by decide)).2.2.2 _).trans G.r41, ((a 4 (by decide)).2.2.2 _).trans G.r42, ((a 4 (by decide)).2.2.2 _).trans G.r43, ((a 4 (by decide)).2.2.2 _).trans G.r44, ((a 4 (by decide)).2.2.2 _).trans G.r45, ((a 4 (by decide)).2.2.2 _).trans G.r46, ((a 0 (by decide)).2.2.2 _).trans G.r00, ((a 1 (by decide)).2.2.2 _).trans G.r10, ((a 2 (by decide)).2.2.2 _).trans G.r20, ((a 3 (by decide)).2.2.2 _).trans G.r30⟩
theorem hB_d {S : Nat → Prop} {κ κ' : AH} {σ : MS} {nb : Nat} (D : Dif S κ κ') (h5 : ¬ S (tS 5)) (hb : ∀ i, ¬ S (tB i)) (h : hB κ σ nb) : hB κ' σ nb := by
  obtain ⟨h1, h2, h3⟩ := h
  refine ⟨fun i hi => ((D _ h5).2.2.2 i).trans (h1 i hi), fun i hi => ?_, fun i hi => (D _ (hb i)).1.trans (h3 i hi)⟩
  obtain ⟨a, b, c, d⟩ := D _ (hb i)
  have q := h2 i hi
  unfold pB at q ⊢
  simp only [a, c, d]
  exact q
theorem hW_d {S : Nat → Prop} {κ κ' : AH} {σ : MS} {nb nw : Nat} {wb : Nat → Nat} (D : Dif S κ κ') (h6 : ¬ S (tS 6)) (hw : ∀ i, ¬ S (tW i)) (h : hW κ σ nb nw wb) : hW κ' σ nb nw wb := by
  obtain ⟨h1, h2, h3⟩ := h
  refine ⟨fun i hi => ((D _ h6).2.2.2 i).trans (h1 i hi), fun i hi => ⟨?_, (h2 i hi).2⟩, fun i hi => (D _ (hw i)).1.trans (h3 i hi)⟩
  obtain ⟨a, b, c, d⟩ := D _ (hw i)
  have q := (h2 i hi).1
  unfold pWl at q ⊢
  simp only [a, c, d]
  exact q
theorem hRm_d {S : Nat → Prop} {κ κ' : AH} {σ : MS} {nb : Nat} (D : Dif S κ κ') (h8 : ¬ S (tS 8)) (hr : ∀ i, i < 36 → ¬ S (tR i)) (h : hRm κ σ nb) : hRm κ' σ nb := by
  obtain ⟨h1, h2, h3⟩ := h
  refine ⟨fun i hi => ((D _ h8).2.2.2 i).trans (h1 i hi), fun i hi hn => ⟨?_, (h2 i hi hn).2⟩, fun i hi hn => (D _ (hr i hi)).1.trans (h3 i hi hn)⟩
  obtain ⟨a, b, c, d⟩ := D _ (hr i hi)
  have q := (h2 i hi hn).1
  unfold pRm at q ⊢
  simp only [a, c, d]
  exact q
theorem hPi_d {S : Nat → Prop} {κ κ' : AH} {σ : MS} {np : Nat} (D : Dif S κ κ') (h7 : ¬ S (tS 7)) (hp : ∀ i, ¬ S (tP i)) (hc : ∀ i, ¬ S (tC i)) (h : hPi κ σ np) : hPi κ' σ np := by
  obtain ⟨h1, h2, h3⟩ := h
  refine ⟨fun i hi => ((D _ h7).2.2.2 i).trans (h1 i hi), fun i hi => ?_, fun i hi => ⟨(D _ (hp i)).1.trans (h3 i hi).1, (D _ (hc i)).1.trans (h3 i hi).2⟩⟩
  obtain ⟨a, b, c, d⟩ := D _ (hp i)
  obtain ⟨a', b', c', d'⟩ := D _ (hc i)
  have q := h2 i hi
  unfold pP at q ⊢
  simp only [a, c, d, a', b', c', d']
  exact q
theorem hNm_d {S : Nat → Prop} {κ κ' : AH} {σ : MS} (D : Dif S κ κ') (h4 : ¬ S (tS 4)) (h3 : ¬ S (tS 3)) (h9 : ¬ S (tS 9)) (h : hNm κ σ) : hNm κ' σ := by
  unfold hNm at h ⊢
  simp only [(D _ h4).2.2.1, (D _ h3).2.2.1, (D _ h9).2.2.1]
  exact h
theorem hHu_d {S : Nat → Prop} {κ κ' : AH} {σ : MS} {nb : Nat} (D : Dif S κ κ') (h0 : ¬ S (tS 0)) (h : hHu κ σ nb) : hHu κ' σ nb := by
  unfold hHu at h ⊢
  simp only [(D _ h0).2.2.1]
  exact h
theorem hLe_d {S : Nat → Prop} {κ κ' : AH} {σ : MS} {nb nw : Nat} (D : Dif S κ κ') (h1 : ¬ S (tS 1)) (h10 : ¬ S (tS 10)) (h : hLe κ σ nb nw) : hLe κ' σ nb nw := by
  unfold hLe at h ⊢
  simp only [(D _ h1).2.2.1, (D _ h10).2.2.1]
  exact h
def bOK (σ : MS) (i : Nat) : Prop := rsOK σ i ∧ (0 ≤ σ.2 13 i ∧ σ.2 13 i ≤ 1000) ∧ ((σ.2 9 i = 0 ∨ σ.2 9 i = 2) → σ.2 17 i = -1)
/-- a filled cell lies in its block, which stands -/
def fX (σ : MS) (nb : Nat) : Prop := ∀ c, c < 36 → ¬ σ.2 25 c = -1 → ∃ j, j < nb ∧ σ.2 25 c = nI j ∧ σ.2 9 j = 2 ∧ σ.2 12 j = nI (c / 12) ∧ σ.2 10 j ≤ nI (c % 12) ∧ nI (c % 12) ≤ σ.2 11 j
/-- a standing block's cells are filled with it -/
def fY (σ : MS) (nb : Nat) : Prop := ∀ j, j < nb → σ.2 9 j = 2 → ∀ f v, f < 12 → v < 3 → σ.2 12 j = nI v → σ.2 10 j ≤ nI f → nI f ≤ σ.2 11 j → σ.2 25 (12 * v + f) = nI j
/-- holes are between filled cells, and on both sides -/
def opS (s : Nat) : Nat := if s = 0 then 1 else if s = 1 then 0 else if s = 2 then 3 else 2
def hSy (σ : MS) : Prop := ∀ k s, k < 36 → s < 4 → hb σ k s → okS k s ∧ ¬ σ.2 25 (stp k s) = -1 ∧ hb σ (stp k s) (opS s)
def IV (σ : MS) (nb nw np : Nat) : Prop := nb ≤ 60 ∧ σ.1 8 = nI nb ∧ nw ≤ 100 ∧ σ.1 18 = nI nw ∧ np ≤ 30 ∧ σ.1 30 = nI np ∧ (σ.1 6 = 0 ∨ σ.1 6 = 1) ∧ (0 ≤ σ.1 2 ∧ σ.1 2 ≤ 11) ∧ σ.1 1 ≤ 1000 ∧ chn σ nb ∧ (∀ i, i < nb → bOK σ i) ∧ scT σ nb ∧ fX σ nb ∧ fY σ nb ∧ emp σ ∧ hSy σ ∧ (∀ k, k < nw → (1 ≤ σ.2 22 k ∧ σ.2 22 k ≤ 11) ∧ (0 ≤ σ.2 23 k ∧ σ.2 23 k ≤ 2)) ∧ (∀ k, k < nw → 0 ≤ σ.2 21 k ∧ σ.2 21 k ≤ 2) ∧ (∀ c, c < 36 → 0 ≤ σ.2 27 c ∧ σ.2 27 c ≤ 300) ∧ (∀ c, c < 36 → 0 ≤ (σ.2 28 c).toInt ∧ (σ.2 28 c).toInt ≤ 36 * np) ∧ pLn σ np ∧ sm (fCl σ) 36 = tnsN σ nb
theorem IV.n8 {σ : MS} {nb nw np : Nat} (h : IV σ nb nw np) : nb ≤ 60 := h.1
theorem IV.e8 {σ : MS} {nb nw np : Nat} (h : IV σ nb nw np) : σ.1 8 = nI nb := h.2.1
theorem IV.n18 {σ : MS} {nb nw np : Nat} (h : IV σ nb nw np) : nw ≤ 100 := h.2.2.1
theorem IV.e18 {σ : MS} {nb nw np : Nat} (h : IV σ nb nw np) : σ.1 18 = nI nw := h.2.2.2.1
theorem IV.n30 {σ : MS} {nb nw np : Nat} (h : IV σ nb nw np) : np ≤ 30 := h.2.2.2.2.1
theorem IV.e30 {σ : MS} {nb nw np : Nat} (h : IV σ nb nw np) : σ.1 30 = nI np := h.2.2.2.2.2.1
theorem IV.l6 {σ : MS} {nb nw np : Nat} (h : IV σ nb nw np) : (σ.1 6 = 0 ∨ σ.1 6 = 1) := h.2.2.2.2.2.2.1
theorem IV.c2 {σ : MS} {nb nw np : Nat} (h : IV σ nb nw np) : (0 ≤ σ.1 2 ∧ σ.1 2 ≤ 11) := h.2.2.2.2.2.2.2.1
theorem IV.h1 {σ : MS} {nb nw np : Nat} (h : IV σ nb nw np) : σ.1 1 ≤ 1000 := h.2.2.2.2.2.2.2.2.1
theorem IV.ch {σ : MS} {nb nw np : Nat} (h : IV σ nb nw np) : chn σ nb := h.2.2.2.2.2.2.2.2.2.1
theorem IV.bk {σ : MS} {nb nw np : Nat} (h : IV σ nb nw np) : (∀ i, i < nb → bOK σ i) := h.2.2.2.2.2.2.2.2.2.2.1
theorem IV.sc {σ : MS} {nb nw np : Nat} (h : IV σ nb nw np) : scT σ nb := h.2.2.2.2.2.2.2.2.2.2.2.1
theorem IV.fx {σ : MS} {nb nw np : Nat} (h : IV σ nb nw np) : fX σ nb := h.2.2.2.2.2.2.2.2.2.2.2.2.1
theorem IV.fy {σ : MS} {nb nw np : Nat} (h : IV σ nb nw np) : fY σ nb := h.2.2.2.2.2.2.2.2.2.2.2.2.2.1
theorem IV.em {σ : MS} {nb nw np : Nat} (h : IV σ nb nw np) : emp σ := h.2.2.2.2.2.2.2.2.2.2.2.2.2.2.1
theorem IV.ho {σ : MS} {nb nw np : Nat} (h : IV σ nb nw np) : hSy σ := h.2.2.2.2.2.2.2.2.2.2.2.2.2.2.2.1
theorem IV.wf {σ : MS} {nb nw np : Nat} (h : IV σ nb nw np) : (∀ k, k < nw → (1 ≤ σ.2 22 k ∧ σ.2 22 k ≤ 11) ∧ (0 ≤ σ.2 23 k ∧ σ.2 23 k ≤ 2)) := h.2.2.2.2.2.2.2.2.2.2.2.2.2.2.2.2.1
theorem IV.rp {σ : MS} {nb nw np : Nat} (h : IV σ nb nw np) : (∀ k, k < nw → 0 ≤ σ.2 21 k ∧ σ.2 21 k ≤ 2) := h.2.2.2.2.2.2.2.2.2.2.2.2.2.2.2.2.2.1
theorem IV.th {σ : MS} {nb nw np : Nat} (h : IV σ nb nw np) : (∀ c, c < 36 → 0 ≤ σ.2 27 c ∧ σ.2 27 c ≤ 300) := h.2.2.2.2.2.2.2.2.2.2.2.2.2.2.2.2.2.2.1
theorem IV.pi {σ : MS} {nb nw np : Nat} (h : IV σ nb nw np) : (∀ c, c < 36 → 0 ≤ (σ.2 28 c).toInt ∧ (σ.2 28 c).toInt ≤ 36 * np) := h.2.2.2.2.2.2.2.2.2.2.2.2.2.2.2.2.2.2.2.1
theorem IV.pl {σ : MS} {nb nw np : Nat} (h : IV σ nb nw np) : pLn σ np := h.2.2.2.2.2.2.2.2.2.2.2.2.2.2.2.2.2.2.2.2.1
theorem IV.ta {σ : MS} {nb nw np : Nat} (h : IV σ nb nw np) : sm (fCl σ) 36 = tnsN σ nb := h.2.2.2.2.2.2.2.2.2.2.2.2.2.2.2.2.2.2.2.2.2
/-- all of it, at a heap that has come from κ0 -/
def RI (κ0 κ : AH) (σ : MS) (nb nw np : Nat) (wb : Nat → Nat) : Prop := IV σ nb nw np ∧ RC κ σ nb nw np wb ∧ FM κ0 κ
def RE (κ0 κ : AH) (σ : MS) : Prop := ∃ (nb nw np : Nat) (wb : Nat → Nat), RI κ0 κ σ nb nw np wb



/-! THE LAW'S isPipe: what it needs -/
def lz (l : LSt) : LSt := fun j k => if j = 10 then 0 else l j k
theorem lz_o {l : LSt} {j : Nat} (h : j ≠ 10) : lz l j = l j := funext fun _ => if_neg h
def SKp (p : Nat) (κ κ1 : AH) : Prop := ∀ i, i ≠ p → gT κ1 (tM i) = gT κ (tM i) ∧ gN κ1 (tM i) = gN κ (tM i)
def PQp (κ : AH) (p : Nat) (v : Option Value) (κ' : AH) : Prop := v = some (.int 1) ∧ ∃ κ1 l1 σ1 nb1 nw1 np1 wb1, κ' = PL κ1 p l1 ∧ RI κ1 κ1 σ1 nb1 nw1 np1 wb1 ∧ Cp l1 σ1 nb1 nw1 np1 ∧ SKp p κ κ1
theorem nO_PL {κ : AH} {p : Nat} {l : LSt} (hp : 10 ≤ p) : nO (PL κ p l) (tM p) 11 36 = PL (nO (PL κ p l) (tM p) 11 36) p (lz l) := PL_of fun a k ha => by
  show (if a = tM p then 0 else gI (PL κ p l) a k) = lz l (lnr p a) k
  by_cases e : a = tM p
  · subst e; rw [if_pos rfl, lnr_p hp]; rfl
  · rw [if_neg e, gI_PLj k rfl ha]
    exact (if_neg (fun z => e (lnr_ge ha (by omega)))).symm
theorem nO_D {κ : AH} {p : Nat} : Dif (fun t => ∃ i, t = tM i) κ (nO κ (tM p) 11 36) := fun t ht => ⟨if_neg (fun e => ht ⟨p, e⟩), if_neg (fun e => ht ⟨p, e⟩), fun _ => if_neg (fun e => ht ⟨p, e⟩), fun _ => if_neg (fun e => ht ⟨p, e⟩)⟩
theorem RI_nO {κ : AH} {p : Nat} {l : LSt} {σ : MS} {nb nw np : Nat} {wb : Nat → Nat} (h : RI κ κ σ nb nw np wb) : RI (nO (PL κ p l) (tM p) 11 36) (nO (PL κ p l) (tM p) 11 36) σ nb nw np wb := RI_m nO_D (RI_PL h)
theorem tM_ne {i p : Nat} (h : i ≠ p) : ¬ tM i = tM p := fun z => h (by unfold tM at z; omega)
theorem SKp_nO {κ : AH} {p : Nat} {l : LSt} : SKp p κ (nO (PL κ p l) (tM p) 11 36) := fun i hi => ⟨if_neg (tM_ne hi), if_neg (tM_ne hi)⟩
theorem AK_nO {κ : AH} {p : Nat} {l : LSt} (A : AK κ) (hp : 10 ≤ p) : AK (nO (PL κ p l) (tM p) 11 36) := fun j hj => ⟨(SKp_nO j (by omega)).1.trans (A j hj).1, (SKp_nO j (by omega)).2.trans (A j hj).2⟩
theorem AF_nO {κ : AH} {p : Nat} {l : LSt} (hp : 41 ≤ p) : AF (nO (PL κ p l) (tM p) 11 36) p := ⟨hp, if_pos rfl, if_pos rfl⟩
theorem SKp.tr {κ κ1 κ2 : AH} {p : Nat} (h : SKp p κ κ1) (h2 : SK κ1 κ2) : SKp p κ κ2 := fun i hi => ⟨(h2 i).1.trans (h i hi).1, (h2 i).2.trans (h i hi).2⟩
theorem Cp_10 {l l' : LSt} {σ : MS} {nb nw np : Nat} (h : Cp l σ nb nw np) (hl : ∀ j, j ≠ 10 → l' j = l j) : Cp l' σ nb nw np := by
  obtain ⟨⟨h1, h2, h3, h4⟩, ⟨B, W, R, G, z18⟩, hln⟩ := h
  exact ⟨⟨h1, h2, h3, h4⟩, ⟨B.cong (fun j hj i _ => congrFun (hl j (by omega)) i) (fun j _ _ i _ => rfl), W.cong (fun k _ => congrFun (hl 6 (by decide)) k) (fun _ _ _ _ _ => rfl) (Nat.le_refl _), fun c hc => by rw [hl 7 (by decide), hl 8 (by decide)]; exact R c hc, G.cong (fun k => congrFun (hl 9 (by decide)) k) (fun _ _ => rfl) (fun _ _ => rfl), z18⟩, hln⟩
theorem rP_opn {σ : MS} {t : Int32} : ∀ {n k : Nat}, rP σ t n k → opn σ k
  | 0, _, h => h.2
  | _ + 1, _, h => h.1
theorem cH1_cong {x : Int32} {σ σ' : MS} {c : Nat} (h : cH1 x σ c) (h26 : σ'.2 26 c = σ.2 26 c) (h27 : σ'.2 27 c = σ.2 27 c) (h28 : σ'.2 28 c = σ.2 28 c) (h29 : σ'.2 29 c = σ.2 29 c) : cH1 x σ' c := by
  obtain ⟨P, H, Q, T, h1, h2, h3, h4, h5, h6, h7, h8, h9⟩ := h
  exact ⟨P, H, Q, T, h1, h2, h3, h4, h26.trans h5, h29.trans h6, h28.trans h7, h27.trans h8, h9⟩
theorem cH1_up {x : Int32} {σ σ' : MS} {c : Nat} (h : cH1 x σ c) (ho : opn σ c) (h26 : σ'.2 26 c = σ.2 26 c) (h27 : σ'.2 27 c = σ.2 27 c) (h28 : σ'.2 28 c = σ.2 28 c + 1) (h29 : σ'.2 29 c = σ.2 29 c) : cH1 (x + 32) σ' c := by
  obtain ⟨P, H, Q, T, h1, h2, h3, h4, h5, h6, h7, h8, h9⟩ := h
  have hQ : Q ≤ 2 := by
    have : ¬ 3 ≤ σ.2 28 c := ho
    rw [h7] at this
    have : Q = 0 ∨ Q = 1 ∨ Q = 2 ∨ Q = 3 := by omega
    rcases this with rfl | rfl | rfl | rfl
    · omega
    · omega
    · omega
    · exact absurd (by decide) this
  refine ⟨P, H, Q + 1, T, h1, h2, by omega, h4, h26.trans h5, h29.trans h6, ?_, h27.trans h8, ?_⟩
  · rw [h28, h7]; exact nI_1 Q
  · rw [h9, show (32 : Int32) = nI 32 from rfl, nI_add]
    congr 1
    unfold eH
    omega
theorem nrS_c {a b : Nat} (ha : a < 36) (hb : b ≤ 36) : (nI (if b < 36 then b else 99) = nI a - 1 ↔ b + 1 = a) := by
  cases a with
  | zero =>
    refine ⟨fun z => ?_, fun z => by omega⟩
    have z2 : nI (if b < 36 then b else 99) = -1 := z
    by_cases c : b < 36
    · rw [if_pos c] at z2; exact absurd z2 (nI_m1 c)
    · rw [if_neg c] at z2; exact absurd z2 (by decide)
  | succ a =>
    rw [nI_pred, nI_eq (by split <;> omega) (by omega)]
    by_cases c : b < 36
    · rw [if_pos c]; omega
    · rw [if_neg c]; omega
theorem sPt28 {σ : MS} {g : Nat → Nat} {c : Nat} : ∀ n, (∀ j, j < n → g j ≠ c) → (sPt σ g n).2 28 c = σ.2 28 c
  | 0, _ => rfl
  | n + 1, h => by
    rw [sPt_28, if_neg (fun z => h n (by omega) z.symm)]
    exact sPt28 n (fun j hj => h j (by omega))
theorem sPt32 {σ : MS} {g : Nat → Nat} {np i : Nat} (e : σ.1 30 = nI np) (hnp : np < 30) : ∀ n, n ≤ 36 → i < n → (sPt σ g n).2 32 (36 * np + i) = nI (g i)
  | 0, _, h => by omega
  | n + 1, hn, h => by
    rw [sPt_32, e, px, nI_clamp (by omega)]
    by_cases c : i = n
    · subst c; rw [if_pos rfl]
    · rw [if_neg (by omega)]
      exact sPt32 e hnp n (by omega) (by omega)
theorem pth_ne {σ : MS} {t : Int32} {f : Nat → Nat} {a : Nat} (ho : hOK σ) (hf : isD σ t f) (ha : a < 36) (hl : f a < 36) {i j : Nat} (hi : i ≤ f a) (hj : j ≤ f a) (h : i ≠ j) : pth σ f a i ≠ pth σ f a j := fun z => by
  have q1 := (pth_ok ho hf ha hl i hi).2
  have q2 := (pth_ok ho hf ha hl j hj).2
  rw [z] at q1
  omega
theorem byF_29 {σ σ' : MS} {k s : Nat} (h : σ'.2 29 = σ.2 29) : byF σ' k s = byF σ k s := by unfold byF hb; rw [h]

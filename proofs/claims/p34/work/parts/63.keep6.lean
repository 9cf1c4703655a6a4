/-! WHAT ALWAYS HOLDS, 8: erect -/
/-- block i with frames lo..hi on level v -/
def pos (σ : MS) (i lo hi v : Nat) : Prop := σ.2 10 i = nI lo ∧ σ.2 11 i = nI hi ∧ σ.2 12 i = nI v ∧ lo ≤ hi ∧ hi < 12 ∧ v < 3
theorem pos_of {σ : MS} {i : Nat} (r : rsOK σ i) : ∃ lo hi v, pos σ i lo hi v := by
  obtain ⟨f, hf, ef⟩ := vp_in_of (in_c (c := 11) (n := 12) (by decide) r.1) (by decide)
  obtain ⟨l, hl, el⟩ := vp_in_of (in_c (c := 11) (n := 12) (by decide) r.2.1) (by decide)
  obtain ⟨v, hv, ev⟩ := vp_in_of (in_c (c := 2) (n := 3) (by decide) r.2.2.2) (by decide)
  have r3 := r.2.2.1
  rw [el, ef, nI_clamp (by omega), nI_clamp (by omega)] at r3
  exact ⟨f, l, v, ef, el, ev, r3, hl, hv⟩
theorem bAt_n {σ : MS} {f v : Nat} (hf : f < 12) (hv : v < 3) : bAt σ (nI f) (nI v) = σ.2 25 (12 * v + f) := by
  unfold bAt
  rw [if_pos ⟨nI_pos' (by omega), nI_le (b := 11) (by omega) (by decide)⟩, show (12 : Int32) = nI 12 from rfl, nI_mul, nI_add, nI_clamp (by omega)]
theorem fl_un {σ : MS} {i lo hi v : Nat} (hp : pos σ i lo hi v) (h : flN σ i = false) : ∀ c, 12 * v + lo ≤ c → c ≤ 12 * v + hi → σ.2 25 c = -1 := by
  obtain ⟨e1, e2, e3, h1, h2, h3⟩ := hp
  intro c hc1 hc2
  refine Classical.byContradiction fun hn => ?_
  have q : flN σ i = true := by
    unfold flN
    rw [e1, e2, e3, nI_clamp (by omega), nI_clamp (by omega)]
    refine anyF_t (k := c - 12 * v) (by omega) (by omega) ?_
    rw [bAt_n (by omega) h3, show 12 * v + (c - 12 * v) = c from by omega]
    exact hn
  rw [h] at q
  exact absurd q (by decide)
theorem flS_25 {σ : MS} {b : Int32} {v lo c : Nat} (hv : v < 3) : ∀ n, lo + n ≤ 12 → (flS σ (nI v) b lo n).2 25 c = if 12 * v + lo ≤ c ∧ c < 12 * v + lo + n then b else σ.2 25 c
  | 0, _ => by rw [if_neg (by omega)]; rfl
  | n + 1, hn => by
    have e : (12 * nI v + nI (lo + n)).toNatClampNeg = 12 * v + lo + n := by
      rw [show (12 : Int32) = nI 12 from rfl, nI_mul, nI_add, nI_clamp (by omega)]
      omega
    show (if 25 = 25 ∧ c = (12 * nI v + nI (lo + n)).toNatClampNeg then b else (flS σ (nI v) b lo n).2 25 c) = _
    rw [e, flS_25 hv n (by omega)]
    by_cases q : c = 12 * v + lo + n
    · rw [if_pos ⟨rfl, q⟩, if_pos (by omega)]
    · rw [if_neg (fun z => q z.2)]
      by_cases q2 : 12 * v + lo ≤ c ∧ c < 12 * v + lo + n
      · rw [if_pos q2, if_pos (by omega)]
      · rw [if_neg q2, if_neg (by omega)]
theorem flS_7 {σ : MS} {v b : Int32} {lo : Nat} : ∀ n, (flS σ v b lo n).1 7 = σ.1 7 + 100 * nI n
  | 0 => by
    show σ.1 7 = σ.1 7 + 100 * 0
    grind
  | n + 1 => by
    show (flS σ v b lo n).1 7 + 100 = _
    rw [flS_7 n, ← nI_1]
    grind
theorem erB_9 {σ : MS} {i j : Nat} {a c : Int32} : (erB σ i a c).2 9 j = if j = i then 2 else σ.2 9 j := by
  simp only [erB, upA]
  by_cases e : j = i
  · simp [e]
  · simp only [e, and_false, if_false]
    rw [erA_row (by decide)]
theorem erC_9 {σ : MS} {i j : Nat} {b a c : Int32} : (erC σ i b a c).2 9 j = if j = i then 2 else σ.2 9 j := by
  unfold erC
  rw [flS_row (by decide), erB_9]
theorem erC_25 {σ : MS} {i lo hi v d : Nat} {b a c : Int32} (hp : pos σ i lo hi v) : (erC σ i b a c).2 25 d = if 12 * v + lo ≤ d ∧ d ≤ 12 * v + hi then b else σ.2 25 d := by
  obtain ⟨e1, e2, e3, h1, h2, h3⟩ := hp
  unfold erC
  rw [e1, e2, e3, nI_clamp (by omega), nI_clamp (by omega), flS_25 h3 _ (by omega), erB_row (by decide) (by decide) (by decide)]
  have q : (12 * v + lo ≤ d ∧ d < 12 * v + lo + (hi + 1 - lo)) ↔ (12 * v + lo ≤ d ∧ d ≤ 12 * v + hi) := by constructor <;> (intro z; omega)
  simp only [q]
theorem erC_7 {σ : MS} {i lo hi v : Nat} {b a c : Int32} (hp : pos σ i lo hi v) : (erC σ i b a c).1 7 = σ.1 7 + 100 * (σ.2 11 i - σ.2 10 i + 1) := by
  obtain ⟨e1, e2, e3, h1, h2, h3⟩ := hp
  unfold erC
  rw [e1, e2, e3, nI_clamp (by omega), nI_clamp (by omega), flS_7, erB_num, pk_sub h1, nI_1, show hi - lo + 1 = hi + 1 - lo from by omega]
theorem tnA_sm {N lo : Nat} {l t : Int32} (hN : 1 ≤ N) (hN2 : N < 100) (hlo : lo < 100) : ∀ m, m ≤ N → sm (fun k => tnA (nI N) (nI lo) l t (nI (lo + k))) m = (if m = 0 then 0 else t - t / nI N * nI N) + nI m * (t / nI N)
  | 0, _ => by
    show (0 : Int32) = (if 0 = 0 then 0 else _) + 0 * _
    rw [if_pos rfl]
    grind
  | m + 1, hm => by
    have ih := tnA_sm (l := l) (t := t) hN hN2 hlo m (by omega)
    show sm _ m + tnA (nI N) (nI lo) l t (nI (lo + m)) = _
    rw [ih]
    unfold tnA
    rw [if_neg (show ¬ nI N < 1 from fun z => by have := (nI_ltI (b := 1) (by omega) (by decide)).mp z; omega), if_neg (show ¬ m + 1 = 0 by omega), ← nI_1 m]
    by_cases q : m = 0
    · subst q
      rw [if_pos rfl, if_pos (show nI (lo + 0) = nI lo from rfl), show nI 0 = 0 from rfl]
      grind
    · rw [if_neg q, if_neg (show ¬ nI (lo + m) = nI lo from fun z => q (by have := (nI_eq (by omega) (by omega)).mp z; omega))]
      grind
theorem tnA_all {N lo : Nat} {l t : Int32} (hN : 1 ≤ N) (hN2 : N < 100) (hlo : lo < 100) : sm (fun k => tnA (nI N) (nI lo) l t (nI (lo + k))) N = t := by
  rw [tnA_sm hN hN2 hlo N (Nat.le_refl _), if_neg (by omega)]
  grind
theorem fCl_fl {σ : MS} {i lo hi v : Nat} (hp : pos σ i lo hi v) (hi60 : i < 60) (hu : ∀ c, 12 * v + lo ≤ c → c ≤ 12 * v + hi → σ.2 25 c = -1) (he : emp σ) : ∀ n, lo + n ≤ hi + 1 → sm (fCl (flS σ (nI v) (nI i) lo n)) 36 = sm (fCl σ) 36 + sm (fun k => tnA (nI (hi + 1 - lo)) (nI lo) (nI hi) (σ.2 13 i) (nI (lo + k))) n
  | 0, _ => by
    show sm (fCl σ) 36 = sm (fCl σ) 36 + 0
    rw [Int32.add_zero]
  | n + 1, hn => by
    obtain ⟨e1, e2, e3, h1, h2, h3⟩ := id hp
    have ih := fCl_fl hp hi60 hu he n (by omega)
    have r : ∀ k, k ≠ 25 → (flS σ (nI v) (nI i) lo (n + 1)).2 k = σ.2 k := fun k h => flS_row h _
    have r' : ∀ k, k ≠ 25 → (flS σ (nI v) (nI i) lo n).2 k = σ.2 k := fun k h => flS_row h _
    have hc := hu (12 * v + lo + n) (by omega) (by omega)
    obtain ⟨-, m2, m3, -⟩ := he (12 * v + lo + n) (by omega) hc
    rw [sm_pt (f := fCl (flS σ (nI v) (nI i) lo n)) (c := 12 * v + lo + n) (d := tnA (nI (hi + 1 - lo)) (nI lo) (nI hi) (σ.2 13 i) (nI (lo + n))) ?_ ?_ 36 (by omega), ih]
    · show _ = _ + (sm _ n + _)
      grind
    · unfold fCl
      rw [r 27 (by decide), r 28 (by decide), r 10 (by decide), r 11 (by decide), r 13 (by decide), r' 27 (by decide), r' 28 (by decide), r' 10 (by decide), r' 11 (by decide), r' 13 (by decide), flS_25 h3 _ (by omega), flS_25 h3 _ (by omega), if_pos (show 12 * v + lo ≤ 12 * v + lo + n ∧ 12 * v + lo + n < 12 * v + lo + (n + 1) by omega), if_neg (show ¬ (12 * v + lo ≤ 12 * v + lo + n ∧ 12 * v + lo + n < 12 * v + lo + n) by omega), if_neg (nI_mm (by omega)), hc, if_pos rfl, nI_clamp (n := i) (by omega), e1, e2, m2, m3, pk_sub h1, nI_1, show hi - lo + 1 = hi + 1 - lo from by omega, show (12 * v + lo + n) % 12 = lo + n from by omega]
      grind
    · intro d hd
      have q : (flS σ (nI v) (nI i) lo (n + 1)).2 25 d = (flS σ (nI v) (nI i) lo n).2 25 d := by
        rw [flS_25 h3 _ (by omega), flS_25 h3 _ (by omega)]
        have w : (12 * v + lo ≤ d ∧ d < 12 * v + lo + (n + 1)) ↔ (12 * v + lo ≤ d ∧ d < 12 * v + lo + n) := by constructor <;> (intro z; omega)
        simp only [w]
      unfold fCl
      rw [r 27 (by decide), r 28 (by decide), r 10 (by decide), r 11 (by decide), r 13 (by decide), r' 27 (by decide), r' 28 (by decide), r' 10 (by decide), r' 11 (by decide), r' 13 (by decide), q]
theorem fCl_er {σ : MS} {i lo hi v : Nat} {a c : Int32} (hp : pos σ i lo hi v) (hi60 : i < 60) (hu : ∀ c, 12 * v + lo ≤ c → c ≤ 12 * v + hi → σ.2 25 c = -1) (he : emp σ) : sm (fCl (erC σ i (nI i) a c)) 36 = sm (fCl σ) 36 + σ.2 13 i := by
  obtain ⟨e1, e2, e3, h1, h2, h3⟩ := id hp
  have r : ∀ k, k ≠ 14 → k ≠ 16 → k ≠ 9 → (erB σ i a c).2 k = σ.2 k := fun k a b c => erB_row a b c
  have hp2 : pos (erB σ i a c) i lo hi v := by
    unfold pos
    rw [r 10 (by decide) (by decide) (by decide), r 11 (by decide) (by decide) (by decide), r 12 (by decide) (by decide) (by decide)]
    exact hp
  have h := fCl_fl hp2 hi60 (by rw [r 25 (by decide) (by decide) (by decide)]; exact hu) (by unfold emp; rw [r 25 (by decide) (by decide) (by decide), r 26 (by decide) (by decide) (by decide), r 27 (by decide) (by decide) (by decide), r 28 (by decide) (by decide) (by decide), r 29 (by decide) (by decide) (by decide)]; exact he) (hi + 1 - lo) (by omega)
  unfold erC
  rw [e1, e2, e3, nI_clamp (by omega), nI_clamp (by omega), h, tnA_all (by omega) (by omega) (by omega), fCl_cg (r 10 (by decide) (by decide) (by decide)) (r 11 (by decide) (by decide) (by decide)) (r 13 (by decide) (by decide) (by decide)) (r 25 (by decide) (by decide) (by decide)) (r 27 (by decide) (by decide) (by decide)) (r 28 (by decide) (by decide) (by decide)), r 13 (by decide) (by decide) (by decide)]
theorem tns_er {σ : MS} {nb i : Nat} {b a c : Int32} (hi : i < nb) (h0 : σ.2 9 i = 0) : tnsN (erC σ i b a c) nb = tnsN σ nb + σ.2 13 i ∧ momN (erC σ i b a c) nb = momN σ nb + σ.2 13 i * (σ.2 10 i + σ.2 11 i) := by
  have r : ∀ k, k ≠ 14 → k ≠ 16 → k ≠ 9 → k ≠ 25 → (erC σ i b a c).2 k = σ.2 k := fun k a b c d => erC_row a b c d
  constructor
  · unfold tnsN
    rw [sm_pt (f := fTB σ) (c := i) (d := σ.2 13 i) ?_ ?_ nb hi, show fTC (erC σ i b a c) = fTC σ from funext fun c => by unfold fTC; rw [r 27 (by decide) (by decide) (by decide) (by decide), r 28 (by decide) (by decide) (by decide) (by decide)]]
    · grind
    · unfold fTB
      rw [erC_9, if_pos rfl, if_pos rfl, h0, if_neg (by decide), r 13 (by decide) (by decide) (by decide) (by decide)]
      grind
    · intro j hj
      unfold fTB
      rw [erC_9, if_neg hj, r 13 (by decide) (by decide) (by decide) (by decide)]
  · unfold momN
    rw [sm_pt (f := fMB σ) (c := i) (d := σ.2 13 i * (σ.2 10 i + σ.2 11 i)) ?_ ?_ nb hi, show fMC (erC σ i b a c) = fMC σ from funext fun c => by unfold fMC; rw [r 27 (by decide) (by decide) (by decide) (by decide), r 28 (by decide) (by decide) (by decide) (by decide)]]
    · grind
    · unfold fMB
      rw [erC_9, if_pos rfl, if_pos rfl, h0, if_neg (by decide), r 13 (by decide) (by decide) (by decide) (by decide), r 10 (by decide) (by decide) (by decide) (by decide), r 11 (by decide) (by decide) (by decide) (by decide)]
      grind
    · intro j hj
      unfold fMB
      rw [erC_9, if_neg hj, r 13 (by decide) (by decide) (by decide) (by decide), r 10 (by decide) (by decide) (by decide) (by decide), r 11 (by decide) (by decide) (by decide) (by decide)]
theorem nSt_up {σ σ' : MS} {i : Nat} (h1 : σ'.2 9 i = 2) (h0 : ¬ σ.2 9 i = 2) (h2 : ∀ j, j ≠ i → σ'.2 9 j = σ.2 9 j) : ∀ nb, i < nb → nSt σ' nb = nSt σ nb + 1
  | 0, h => by omega
  | n + 1, h => by
    unfold nSt
    by_cases e : n = i
    · subst e
      rw [nSt_cg (σ := σ) (σ' := σ') n (fun j hj => by rw [h2 j (by omega)]), if_pos h1, if_neg h0]
    · rw [nSt_up h1 h0 h2 n (by omega), h2 n e]
      omega
theorem nEn_er {σ : MS} {nb nw i : Nat} {b a c : Int32} (hi : i < nb) (h0 : σ.2 9 i = 0) : nEn (erC σ i b a c) nb nw = nEn σ nb nw + 1 := by
  unfold nEn
  rw [nSt_up (σ := σ) (i := i) (by rw [erC_9, if_pos rfl]) (by rw [h0]; decide) (fun j hj => by rw [erC_9, if_neg hj]) nb hi, nRp_cg (σ := σ) (σ' := erC σ i b a c) nw (fun k _ => by rw [erC_row (by decide) (by decide) (by decide) (by decide)]), erC_num (by decide)]
  omega
theorem IV_er {σ : MS} {nb nw np i lo hi v : Nat} {a c : Int32} (I : IV σ nb nw np) (hib : i < nb) (h0 : σ.2 9 i = 0) (hp : pos σ i lo hi v) (hu : ∀ c, 12 * v + lo ≤ c → c ≤ 12 * v + hi → σ.2 25 c = -1) : IV (erC σ i (nI i) a c) nb nw np := by
  have h8 := I.n8
  have r : ∀ k, k ≠ 14 → k ≠ 16 → k ≠ 9 → k ≠ 25 → (erC σ i (nI i) a c).2 k = σ.2 k := fun k a b c d => erC_row a b c d
  have u : ∀ k, k ≠ 7 → (erC σ i (nI i) a c).1 k = σ.1 k := fun k h => erC_num h
  have h17 := (I.bk i hib).2.2 (Or.inl h0)
  have e25 : ∀ d, ¬ σ.2 25 d = -1 → (erC σ i (nI i) a c).2 25 d = σ.2 25 d := fun d hd => by
    rw [erC_25 hp, if_neg (fun z => hd (hu d z.1 z.2))]
  have m1 := nI_mm (k := i) (by omega)
  obtain ⟨p1, p2, p3, p4, p5, p6⟩ := id hp
  refine ⟨I.n8, ((u 8 (by decide)).trans I.e8), I.n18, ((u 18 (by decide)).trans I.e18), I.n30, ((u 30 (by decide)).trans I.e30), (by rw [u 6 (by decide)]; exact I.l6), (by rw [u 2 (by decide)]; exact I.c2), (by rw [u 1 (by decide)]; exact I.h1), (by unfold chn; rw [r 17 (by decide) (by decide) (by decide) (by decide)]; exact I.ch), ?_, ?_, ?_, ?_, ?_, ?_, (by simp only [r 22 (by decide) (by decide) (by decide) (by decide), r 23 (by decide) (by decide) (by decide) (by decide)]; exact I.wf), (by simp only [r 21 (by decide) (by decide) (by decide) (by decide)]; exact I.rp), (by simp only [r 27 (by decide) (by decide) (by decide) (by decide)]; exact I.th), (by simp only [r 28 (by decide) (by decide) (by decide) (by decide)]; exact I.pi), (by unfold pLn; simp only [r 31 (by decide) (by decide) (by decide) (by decide)]; exact I.pl), ?_⟩
  · intro j hj
    have q := I.bk j hj
    unfold bOK rsOK at q ⊢
    simp only [r 10 (by decide) (by decide) (by decide) (by decide), r 11 (by decide) (by decide) (by decide) (by decide), r 12 (by decide) (by decide) (by decide) (by decide), r 13 (by decide) (by decide) (by decide) (by decide), r 17 (by decide) (by decide) (by decide) (by decide)]
    refine ⟨q.1, q.2.1, fun z => ?_⟩
    rw [erC_9] at z
    by_cases e : j = i
    · rw [e]; exact h17
    · rw [if_neg e] at z; exact q.2.2 z
  · intro j hj
    have q := I.sc j hj
    rw [whI_cg (r 17 (by decide) (by decide) (by decide) (by decide)), erC_9, erC_9]
    by_cases e : whI σ j = i
    · rw [if_pos e]
      rw [e, h0] at q
      by_cases e2 : j = i
      · rw [if_pos e2]
      · rw [if_neg e2]
        exact ⟨fun z => absurd z (by decide), fun z => absurd (q.mpr z) (by decide)⟩
    · have e2 : ¬ j = i := fun z => e (by rw [z]; exact whI_root (by omega) h17)
      rw [if_neg e, if_neg e2]; exact q
  · intro d hd hm
    simp only [r 10 (by decide) (by decide) (by decide) (by decide), r 11 (by decide) (by decide) (by decide) (by decide), r 12 (by decide) (by decide) (by decide) (by decide)]
    by_cases q : 12 * v + lo ≤ d ∧ d ≤ 12 * v + hi
    · refine ⟨i, hib, by rw [erC_25 hp, if_pos q], by rw [erC_9, if_pos rfl], ?_, ?_, ?_⟩
      · rw [p3, show d / 12 = v from by omega]
      · rw [p1]; exact nI_le (by omega) (by omega)
      · rw [p2]; exact nI_le (by omega) (by omega)
    · rw [erC_25 hp, if_neg q] at hm
      obtain ⟨j, a1, a2, a3, a4, a5, a6⟩ := I.fx d hd hm
      refine ⟨j, a1, by rw [erC_25 hp, if_neg q]; exact a2, ?_, a4, a5, a6⟩
      rw [erC_9]
      by_cases e : j = i
      · rw [if_pos e]
      · rw [if_neg e]; exact a3
  · intro j hj h2 f v' hf hv' e12 h10 h11
    simp only [r 10 (by decide) (by decide) (by decide) (by decide), r 11 (by decide) (by decide) (by decide) (by decide), r 12 (by decide) (by decide) (by decide) (by decide)] at e12 h10 h11
    by_cases e : j = i
    · subst e
      rw [p1] at h10; rw [p2] at h11; rw [p3] at e12
      have z1 := (nI_leI (by omega) (by omega)).mp h10
      have z2 := (nI_leI (by omega) (by omega)).mp h11
      have z3 := (nI_eq (by omega) (by omega)).mp e12
      rw [erC_25 hp, if_pos (by omega)]
    · rw [erC_9, if_neg e] at h2
      have q := I.fy j hj h2 f v' hf hv' e12 h10 h11
      rw [e25 _ (by rw [q]; exact nI_mm (by omega))]
      exact q
  · intro d hd hm
    rw [r 26 (by decide) (by decide) (by decide) (by decide), r 27 (by decide) (by decide) (by decide) (by decide), r 28 (by decide) (by decide) (by decide) (by decide), r 29 (by decide) (by decide) (by decide) (by decide)]
    refine I.em d hd (Classical.byContradiction fun z => z ?_)
    rw [← e25 d z]; exact hm
  · intro k s hk hs hb1
    have hb2 : hb σ k s := by
      unfold hb at hb1 ⊢
      rw [r 29 (by decide) (by decide) (by decide) (by decide)] at hb1
      exact hb1
    obtain ⟨x1, x2, x3⟩ := I.ho k s hk hs hb2
    refine ⟨x1, ?_, ?_⟩
    · rw [e25 _ x2]; exact x2
    · unfold hb at x3 ⊢
      rw [r 29 (by decide) (by decide) (by decide) (by decide)]; exact x3
  · rw [fCl_er hp (by omega) hu I.em, (tns_er hib h0).1, I.ta]



/-! THE LAW'S HELPERS 1: at, draws, welds, spoils, adds, beyond, whole -/
theorem ix12 (e f : Nat) : 12 * nI e + nI f = nI (12 * e + f) := by
  rw [show (12 : Int32) = nI 12 from rfl, pk_mul, nI_add]
theorem ix12m {e f : Nat} (h : 1 ≤ f) : 12 * nI e + nI f - 1 = nI (12 * e + f - 1) := by
  rw [ix12]; exact nI_s1 (by omega)
theorem ix5 (y : Nat) : 5 + nI y = nI (5 + y) := nI_add 5 y
def atF (l : LSt) (f : Int32) (e : Nat) : Int32 := if 0 ≤ f ∧ f ≤ 11 then l 7 (12 * e + f.toNatClampNeg) else -1
def drX (l : LSt) : Int32 := l 9 4 * 1103515245 + 12345
abbrev drC (X q : Int32) : Prop := (X.toUInt32 >>> ((16 : Int32).toUInt32 &&& Int32.toUInt32 31)).toInt32 - (X.toUInt32 >>> ((16 : Int32).toUInt32 &&& Int32.toUInt32 31)).toInt32 / 100 * 100 < q
def drG (l : LSt) (k y : Nat) (X : Int32) : LSt := lu (lu l 9 4 X) 6 k (l 6 k / 8 * 8 + (if drC X (l 9 (5 + y)) then 4 else 0))
def drF (l : LSt) (k y : Nat) : LSt := drG l k y (drX l)
def wlF (l : LSt) (n : Nat) (b f e : Int32) (y : Nat) : LSt := lu (drF (lu (lu l 6 n (32 * f + 512 * e + 2048 * (b + 1))) 9 9 (l 9 9 - 20)) n y) 9 11 (l 9 11 + 1)
def sp1 (l : LSt) (c : Nat) : LSt := lu l 8 c (l 8 c - (l 8 c - l 8 c / 2 * 2))
def spF (l : LSt) (c : Nat) : LSt := sp1 (sp1 l c) (c - 1)
def adF (l : LSt) (n : Nat) (a t g u : Int32) : LSt := lu (lu (lu (lu (lu (lu (lu l 0 n a) 1 n t) 2 n g) 3 n u) 4 n (-1)) 5 n (-1)) 9 10 (l 9 10 + 1)
set_option maxRecDepth 20000 in
theorem c_L_at {w : W0} {κ : AH} {p : Nat} {l : LSt} {f e : Int32} {e0 : Nat} (A : AK κ) (he : e = nI e0) (he2 : e0 ≤ 2) : CY w yL_at mL_at [.ref (tM 7), .int f, .int e] (PL κ p l) (fun v κ' => v = some (.int (atF l f e0)) ∧ κ' = PL κ p l) := by
  refine CY_of mcL_at (Nat.le_of_ble_eq_true rfl) (cat1 rfl) (fun θ0 => ?_)
  refine runL_ok rkL_at noCut 300 _ _ _ _ _ _ ?_
  refine And.intro (fun c1 => ?_) (fun c1 => ?_)
  · skip
    refine And.intro ⟨Nat.le_of_ble_eq_true rfl, Nat.le_of_ble_eq_true rfl⟩ ?_
    first | exact ⟨by unfold atF; rw [if_neg (by grind)], rfl⟩ | exact ⟨by unfold atF; rw [if_pos (by grind)], rfl⟩
  · skip
    refine And.intro (fun c7 => ?_) (fun c7 => ?_)
    · skip
      refine ⟨7, (12 * e0 + f.toNatClampNeg), A.ld (by decide) (by obtain ⟨j, hj, rfl⟩ := (nI_of2 (M := 11) (n := 11) (by decide) (by assumption) (by assumption)); rw [nI_clamp (by omega)]; show _ < 36; omega) (by obtain ⟨j, hj, rfl⟩ := (nI_of2 (M := 11) (n := 11) (by decide) (by assumption) (by assumption)); rw [nI_clamp (by omega), he]; exact ix12 _ _), ?_⟩
      refine And.intro ⟨Nat.le_of_ble_eq_true rfl, Nat.le_of_ble_eq_true rfl⟩ ?_
      first | exact ⟨by unfold atF; rw [if_neg (by grind)], rfl⟩ | exact ⟨by unfold atF; rw [if_pos (by grind)], rfl⟩
    · skip
      refine And.intro ⟨Nat.le_of_ble_eq_true rfl, Nat.le_of_ble_eq_true rfl⟩ ?_
      first | exact ⟨by unfold atF; rw [if_neg (by grind)], rfl⟩ | exact ⟨by unfold atF; rw [if_pos (by grind)], rfl⟩
set_option maxRecDepth 20000 in
theorem c_L_draws {w : W0} {κ : AH} {p : Nat} {l : LSt} {x z : Int32} {k y : Nat} (A : AK κ) (hx : x = nI k) (hz : z = nI y) (hk : k < 61) (hy : y < 4) : CY w yL_draws mL_draws [.ref (tM 6), .ref (tM 9), .int x, .int z] (PL κ p l) (fun v κ' => v = none ∧ κ' = PL κ p (drF l k y)) := by
  have h59 : ¬ 5 + y = 4 := by omega
  refine CY_of mcL_draws (Nat.le_of_ble_eq_true rfl) (cat1 rfl) (fun θ0 => ?_)
  have K13 : ∀ X : Int32, X = drX l → Y w mL_draws θ0 (PL κ p l) (fun v κ' => v = none ∧ κ' = PL κ p (drF l k y)) (fun _ _ => False) 0 0 13 [some (.ref (tM 6)), some (.ref (tM 9)), some (.int x), some (.int z), none] [] (PL κ p (lu l 9 4 X)) := by
    intro X hX
    have eF : drF l k y = drG l k y X := by unfold drF; rw [hX]
    have rd : lu l 9 4 X 9 (5 + y) = l 9 (5 + y) := lu_o (fun z => h59 z.2)
    have rx : lu l 9 4 X 9 4 = X := lu_s
    have rk : lu l 9 4 X 6 k = l 6 k := lu_o (fun z => absurd z.1 (by decide))
    refine runL_go (κ := κ) (p := p) rkL_draws (fun p => Nat.beq p 13) 300 rfl ?_
    refine ⟨9, 4, A.ld (by decide) (by decide) rfl, ?_⟩
    refine And.intro (by decide) ?_
    refine ⟨9, (5 + y), A.ld (by decide) (show 5 + y < 13 by omega) (by rw [hz]; exact ix5 y), ?_⟩
    refine And.intro (fun c27 => ?_) (fun c27 => ?_)
    · rw [rd, rx] at c27
      have eC : (if drC X (l 9 (5 + y)) then (4 : Int32) else 0) = 0 := if_neg (Int32.not_lt.mpr c27)
      refine ⟨6, k, A.ld (by decide) hk hx, ?_⟩
      refine And.intro (by decide) ?_
      refine ⟨6, k, A.ld (by decide) hk hx, ?_⟩
      refine And.intro ⟨Nat.le_of_ble_eq_true rfl, Nat.le_of_ble_eq_true rfl⟩ ?_
      exact ⟨rfl, by rw [eF]; unfold drG; rw [eC, rk]⟩
    · rw [rd, rx] at c27
      have eC : (if drC X (l 9 (5 + y)) then (4 : Int32) else 0) = 4 := if_pos (Int32.not_le.mp c27)
      refine ⟨6, k, A.ld (by decide) hk hx, ?_⟩
      refine And.intro (by decide) ?_
      refine ⟨6, k, A.ld (by decide) hk hx, ?_⟩
      refine And.intro ⟨Nat.le_of_ble_eq_true rfl, Nat.le_of_ble_eq_true rfl⟩ ?_
      exact ⟨rfl, by rw [eF]; unfold drG; rw [eC, rk]⟩
  refine runL_ok rkL_draws (fun p => Nat.beq p 13) 300 _ _ _ _ _ _ ?_
  refine ⟨9, 4, A.ld (by decide) (by decide) rfl, ?_⟩
  refine pL_draws_5 ?_
  refine runL_ok rkL_draws (fun p => Nat.beq p 13) 300 _ _ _ _ _ _ ?_
  refine ⟨9, 4, A.ld (by decide) (by decide) rfl, ?_⟩
  exact K13 _ (by unfold drX; rfl)
set_option maxRecDepth 20000 in
theorem c_L_welds {w : W0} {κ : AH} {p : Nat} {l : LSt} {b f e z : Int32} {n y : Nat} (A : AK κ) (hw : l 9 11 = nI n) (hz : z = nI y) (hn : n < 61) (hy : y < 4) : CY w yL_welds mL_welds [.ref (tM 6), .ref (tM 9), .int b, .int f, .int e, .int z] (PL κ p l) (fun v κ' => v = none ∧ κ' = PL κ p (wlF l n b f e y)) := by
  refine CY_of mcL_welds (Nat.le_of_ble_eq_true rfl) (cat1 rfl) (fun θ0 => ?_)
  refine runL_ok rkL_welds noCut 300 _ _ _ _ _ _ ?_
  refine ⟨9, 11, A.ld (by decide) (by decide) rfl, ?_⟩
  refine ⟨6, n, A.ld (by decide) hn hw, ?_⟩
  refine ⟨9, 9, A.ld (by decide) (by decide) rfl, ?_⟩
  refine ⟨9, 9, A.ld (by decide) (by decide) rfl, ?_⟩
  refine ⟨9, 11, A.ld (by decide) (by decide) rfl, ?_⟩
  refine pL_welds_42 rfl rfl rfl (c_L_draws A hw hz hn hy) (fun v κ1 hq42 ho42 hk42 => ?_)
  obtain ⟨rfl, rfl⟩ := hq42
  refine runL_ok rkL_welds noCut 300 _ _ _ _ _ _ ?_
  refine ⟨9, 11, A.ld (by decide) (by decide) rfl, ?_⟩
  refine ⟨9, 11, A.ld (by decide) (by decide) rfl, ?_⟩
  refine And.intro ⟨Nat.le_of_ble_eq_true rfl, Nat.le_of_ble_eq_true rfl⟩ ?_
  exact ⟨rfl, rfl⟩
set_option maxRecDepth 20000 in
theorem c_L_spoils {w : W0} {κ : AH} {p : Nat} {l : LSt} {f e : Int32} {e0 f0 : Nat} (A : AK κ) (hf : f = nI f0) (he : e = nI e0) (he2 : e0 ≤ 2) (hf1 : 1 ≤ f0) (hf2 : f0 ≤ 11) : CY w yL_spoils mL_spoils [.ref (tM 8), .int f, .int e] (PL κ p l) (fun v κ' => v = none ∧ κ' = PL κ p (spF l (12 * e0 + f0))) := by
  refine CY_of mcL_spoils (Nat.le_of_ble_eq_true rfl) (cat1 rfl) (fun θ0 => ?_)
  refine runL_ok rkL_spoils noCut 300 _ _ _ _ _ _ ?_
  refine ⟨8, (12 * e0 + f0), A.ld (by decide) (show _ < 37 by omega) (by rw [hf, he]; exact ix12 _ _), ?_⟩
  refine ⟨8, (12 * e0 + f0), A.ld (by decide) (show _ < 37 by omega) (by rw [hf, he]; exact ix12 _ _), ?_⟩
  refine And.intro (by decide) ?_
  refine ⟨8, (12 * e0 + f0), A.ld (by decide) (show _ < 37 by omega) (by rw [hf, he]; exact ix12 _ _), ?_⟩
  refine ⟨8, (12 * e0 + f0 - 1), A.ld (by decide) (show _ < 37 by omega) (by rw [hf, he]; exact ix12m (by omega)), ?_⟩
  refine ⟨8, (12 * e0 + f0 - 1), A.ld (by decide) (show _ < 37 by omega) (by rw [hf, he]; exact ix12m (by omega)), ?_⟩
  refine And.intro (by decide) ?_
  refine ⟨8, (12 * e0 + f0 - 1), A.ld (by decide) (show _ < 37 by omega) (by rw [hf, he]; exact ix12m (by omega)), ?_⟩
  refine And.intro ⟨Nat.le_of_ble_eq_true rfl, Nat.le_of_ble_eq_true rfl⟩ ?_
  exact ⟨rfl, rfl⟩
set_option maxRecDepth 20000 in
theorem c_L_adds {w : W0} {κ : AH} {p : Nat} {l : LSt} {x t g u : Int32} {n : Nat} (A : AK κ) (hn : l 9 10 = nI n) (hn2 : n < 40) : CY w yL_adds mL_adds [.ref (tM 0), .ref (tM 1), .ref (tM 2), .ref (tM 3), .ref (tM 4), .ref (tM 5), .ref (tM 9), .int x, .int t, .int g, .int u] (PL κ p l) (fun v κ' => v = none ∧ κ' = PL κ p (adF l n x t g u)) := by
  refine CY_of mcL_adds (Nat.le_of_ble_eq_true rfl) (cat1 rfl) (fun θ0 => ?_)
  refine runL_ok rkL_adds noCut 300 _ _ _ _ _ _ ?_
  refine ⟨9, 10, A.ld (by decide) (by decide) rfl, ?_⟩
  refine ⟨0, n, A.ld (by decide) hn2 hn, ?_⟩
  refine ⟨9, 10, A.ld (by decide) (by decide) rfl, ?_⟩
  refine ⟨1, n, A.ld (by decide) hn2 hn, ?_⟩
  refine ⟨9, 10, A.ld (by decide) (by decide) rfl, ?_⟩
  refine ⟨2, n, A.ld (by decide) hn2 hn, ?_⟩
  refine ⟨9, 10, A.ld (by decide) (by decide) rfl, ?_⟩
  refine ⟨3, n, A.ld (by decide) hn2 hn, ?_⟩
  refine ⟨9, 10, A.ld (by decide) (by decide) rfl, ?_⟩
  refine ⟨4, n, A.ld (by decide) hn2 hn, ?_⟩
  refine ⟨9, 10, A.ld (by decide) (by decide) rfl, ?_⟩
  refine ⟨5, n, A.ld (by decide) hn2 hn, ?_⟩
  refine ⟨9, 10, A.ld (by decide) (by decide) rfl, ?_⟩
  refine ⟨9, 10, A.ld (by decide) (by decide) rfl, ?_⟩
  refine And.intro ⟨Nat.le_of_ble_eq_true rfl, Nat.le_of_ble_eq_true rfl⟩ ?_
  exact ⟨rfl, rfl⟩

theorem bit_ok : ∀ H, H < 16 → ∀ s, s < 4 → ((nI H >>> (nI s &&& 31)) &&& 1 = 1 ↔ ¬ nI H &&& pw s = 0) := by decide +kernel
def eH (P H Q T : Nat) : Nat := P + 2 * H + 32 * Q + 128 * T
theorem eH_h {P H Q T : Nat} (hP : P ≤ 1) (hH : H < 16) (hQ : Q ≤ 3) (hT : T ≤ 300) : nI (eH P H Q T) / 2 - nI (eH P H Q T) / 2 / 16 * 16 = nI H := by
  have e1 : eH P H Q T < 2 ^ 31 := by unfold eH; omega
  rw [show (2 : Int32) = nI 2 from rfl, show (16 : Int32) = nI 16 from rfl, pk_div e1 (by decide) (by decide), pk_rem (by omega) (by decide) (by decide)]
  congr 1
  unfold eH
  omega
theorem eH_q {P H Q T : Nat} (hP : P ≤ 1) (hH : H < 16) (hQ : Q ≤ 3) (hT : T ≤ 300) : nI (eH P H Q T) / 32 - nI (eH P H Q T) / 32 / 4 * 4 = nI Q := by
  have e1 : eH P H Q T < 2 ^ 31 := by unfold eH; omega
  rw [show (32 : Int32) = nI 32 from rfl, show (4 : Int32) = nI 4 from rfl, pk_div e1 (by decide) (by decide), pk_rem (by omega) (by decide) (by decide)]
  congr 1
  unfold eH
  omega
theorem eH_p {P H Q T : Nat} (hP : P ≤ 1) (hH : H < 16) (hQ : Q ≤ 3) (hT : T ≤ 300) : nI (eH P H Q T) - nI (eH P H Q T) / 2 * 2 = nI P := by
  have e1 : eH P H Q T < 2 ^ 31 := by unfold eH; omega
  rw [show (2 : Int32) = nI 2 from rfl, pk_rem e1 (by decide) (by decide)]
  congr 1
  unfold eH
  omega
theorem eH_t {P H Q T : Nat} (hP : P ≤ 1) (hH : H < 16) (hQ : Q ≤ 3) (hT : T ≤ 300) : nI (eH P H Q T) / 128 = nI T := by
  have e1 : eH P H Q T < 2 ^ 31 := by unfold eH; omega
  rw [show (128 : Int32) = nI 128 from rfl, pk_div e1 (by decide) (by decide)]
  congr 1
  unfold eH
  omega
/-- a room's number in the law, and the room -/
def cH1 (x : Int32) (σ : MS) (c : Nat) : Prop := ∃ P H Q T : Nat, P ≤ 1 ∧ H < 16 ∧ Q ≤ 3 ∧ T ≤ 300 ∧ σ.2 26 c = nI P ∧ σ.2 29 c = nI H ∧ σ.2 28 c = nI Q ∧ σ.2 27 c = nI T ∧ x = nI (eH P H Q T)
theorem cH1.bit {x : Int32} {σ : MS} {c s : Nat} (h : cH1 x σ c) (hs : s < 4) : ((x / 2 - x / 2 / 16 * 16) >>> (nI s &&& 31)) &&& 1 = 1 ↔ hb σ c s := by
  obtain ⟨P, H, Q, T, h1, h2, h3, h4, -, h6, -, -, rfl⟩ := h
  rw [eH_h h1 h2 h3 h4, bit_ok H h2 s hs]
  show _ ↔ ¬ σ.2 29 c &&& pw s = 0
  rw [h6]
theorem cH1.pip {x : Int32} {σ : MS} {c : Nat} (h : cH1 x σ c) : x / 32 - x / 32 / 4 * 4 = σ.2 28 c := by
  obtain ⟨P, H, Q, T, h1, h2, h3, h4, -, -, h7, -, rfl⟩ := h
  rw [eH_q h1 h2 h3 h4, h7]
theorem cH1.pnt {x : Int32} {σ : MS} {c : Nat} (h : cH1 x σ c) : x - x / 2 * 2 = σ.2 26 c := by
  obtain ⟨P, H, Q, T, h1, h2, h3, h4, h5, -, -, -, rfl⟩ := h
  rw [eH_p h1 h2 h3 h4, h5]
theorem cH1.thg {x : Int32} {σ : MS} {c : Nat} (h : cH1 x σ c) : x / 128 = σ.2 27 c := by
  obtain ⟨P, H, Q, T, h1, h2, h3, h4, -, -, -, h8, rfl⟩ := h
  rw [eH_t h1 h2 h3 h4, h8]
theorem cH1.hol {x : Int32} {σ : MS} {c : Nat} (h : cH1 x σ c) : x / 2 - x / 2 / 16 * 16 = σ.2 29 c := by
  obtain ⟨P, H, Q, T, h1, h2, h3, h4, -, h6, -, -, rfl⟩ := h
  rw [eH_h h1 h2 h3 h4, h6]
def byF (σ : MS) (k s : Nat) : Int32 := if hb σ k s then nI (stp k s) else -1
theorem byn_y {σ : MS} {k s : Nat} (h : hb σ k s) : byF σ k s = nI (stp k s) := if_pos h
theorem byn_n {σ : MS} {k s : Nat} (h : ¬ hb σ k s) : byF σ k s = -1 := if_neg h
theorem stp_I {k s : Nat} {x : Int32} (h : okS k s) (hs : s < 4) (e : x = if s = 0 then nI k - 1 else if s = 1 then nI k + 1 else if s = 2 then nI k - 12 else nI k + 12) : x = nI (stp k s) := by
  obtain ⟨h0, h1, h2, h3⟩ := h
  rw [e]
  unfold stp
  rcases (show s = 0 ∨ s = 1 ∨ s = 2 ∨ s = 3 by omega) with rfl | rfl | rfl | rfl
  · exact nI_s1 (h0 rfl)
  · exact nI_add k 1
  · exact nI_s12 (h2 rfl)
  · exact nI_12 k
set_option maxRecDepth 20000 in
theorem c_L_beyond {w : W0} {κ : AH} {p : Nat} {l : LSt} {r z : Int32} {σ : MS} {k s : Nat} (A : AK κ) (hr : r = nI k) (hz : z = nI s) (hk : k < 36) (hs : s < 4) (hh : cH1 (l 8 k) σ k) (hok : hb σ k s → okS k s) : CY w yL_beyond mL_beyond [.ref (tM 8), .int r, .int z] (PL κ p l) (fun v κ' => v = some (.int (byF σ k s)) ∧ κ' = PL κ p l) := by
  refine CY_of mcL_beyond (Nat.le_of_ble_eq_true rfl) (cat1 rfl) (fun θ0 => ?_)
  have K37 : ∀ x : Int32, (x = if s = 0 then nI k - 1 else if s = 1 then nI k + 1 else if s = 2 then nI k - 12 else nI k + 12) → Y w mL_beyond θ0 (PL κ p l) (fun v κ' => v = some (.int (byF σ k s)) ∧ κ' = PL κ p l) (fun _ _ => False) 0 0 37 [some (.ref (tM 8)), some (.int r), some (.int z), none] [.int x] (PL κ p l) := by
    intro x hx
    refine runL_go (κ := κ) (p := p) rkL_beyond (fun p => Nat.beq p 37) 300 rfl ?_
    refine ⟨8, k, A.ld (by decide) (show k < 37 by omega) hr, ?_⟩
    refine And.intro (by decide) ?_
    refine And.intro (by decide) ?_
    refine And.intro (fun c51 => ?_) (fun c51 => ?_)
    · rw [hz, hh.bit hs] at c51
      refine And.intro ⟨Nat.le_of_ble_eq_true rfl, Nat.le_of_ble_eq_true rfl⟩ ?_
      first | exact ⟨by rw [byn_y (by assumption), ← stp_I (hok (by assumption)) hs hx], rfl⟩ | exact ⟨by rw [byn_n (by assumption)], rfl⟩
    · rw [hz, hh.bit hs] at c51
      refine And.intro ⟨Nat.le_of_ble_eq_true rfl, Nat.le_of_ble_eq_true rfl⟩ ?_
      first | exact ⟨by rw [byn_y (by assumption), ← stp_I (hok (by assumption)) hs hx], rfl⟩ | exact ⟨by rw [byn_n (by assumption)], rfl⟩
  refine runL_ok rkL_beyond (fun p => Nat.beq p 37) 300 _ _ _ _ _ _ ?_
  refine And.intro (fun c1 => ?_) (fun c1 => ?_)
  · skip
    refine And.intro (fun c12 => ?_) (fun c12 => ?_)
    · skip
      refine And.intro (fun c23 => ?_) (fun c23 => ?_)
      · skip
        have n0 : ¬ s = 0 := fun h => c1 (by rw [hz, h]; rfl)
        have n1 : ¬ s = 1 := fun h => c12 (by rw [hz, h]; rfl)
        have n2 : ¬ s = 2 := fun h => c23 (by rw [hz, h]; rfl)
        exact K37 _ (by rw [hr]; exact ((if_neg n0).trans ((if_neg n1).trans (if_neg n2))).symm)
      · skip
        have e0 : s = 2 := (nI_eq (b := 2) (by omega) (by decide)).mp (hz.symm.trans c23)
        subst e0
        exact K37 _ (by rw [hr]; exact ((if_neg (by decide)).trans ((if_neg (by decide)).trans (if_pos rfl))).symm)
    · skip
      have e0 : s = 1 := (nI_eq (b := 1) (by omega) (by decide)).mp (hz.symm.trans c12)
      subst e0
      exact K37 _ (by rw [hr]; exact ((if_neg (by decide)).trans (if_pos rfl)).symm)
  · skip
    have e0 : s = 0 := (nI_eq (b := 0) (by omega) (by decide)).mp (hz.symm.trans c1)
    subst e0
    exact K37 _ (by rw [hr]; exact (if_pos rfl).symm)

theorem whN_s {σ : MS} {n : Nat} {b : Int32} : whN σ (n + 1) b = if σ.2 17 b.toNatClampNeg = -1 then b else whN σ n (σ.2 17 b.toNatClampNeg) := rfl
theorem whN_go {σ : MS} {nb : Nat} (hc : chn σ nb) : ∀ (n j : Nat), j < nb → nb ≤ n + j → ∀ m, whN σ (n + m) (nI j) = whN σ n (nI j) := by
  intro n
  induction n with
  | zero => intro j hj hn; omega
  | succ n ih =>
    intro j hj hn m
    rw [show n + 1 + m = n + m + 1 by omega, whN_s, whN_s, nI_clamp (by have := hc.1; omega)]
    rcases hc.2 j hj with h1 | ⟨k, h1, h2, h3⟩
    · rw [if_pos h1, if_pos h1]
    · rw [h3]
      by_cases e : nI k = -1
      · rw [if_pos e, if_pos e]
      · rw [if_neg e, if_neg e]
        by_cases hn0 : n = 0
        · omega
        · exact ih k h2 (by omega) m
theorem whl_n {σ : MS} {nb j : Nat} (hc : chn σ nb) (hj : j < nb) (h : σ.2 17 j = -1) : whl σ (nI j) = nI j := by
  unfold whl
  rw [whN_s, nI_clamp (by have := hc.1; omega), if_pos h]
theorem whl_s {σ : MS} {nb j k : Nat} (hc : chn σ nb) (hj : j < nb) (h : σ.2 17 j = nI k) (hk : k < nb) (hjk : j < k) : whl σ (nI j) = whl σ (nI k) := by
  have h60 := hc.1
  have hne : ¬ nI k = -1 := nI_mm (by omega)
  unfold whl
  rw [show whN σ 60 (nI j) = whN σ (59 + 1) (nI j) from rfl, whN_s, nI_clamp (by omega), h, if_neg hne]
  exact (whN_go hc 59 k hk (by omega) 1).symm
set_option maxRecDepth 20000 in
theorem c_L_whole {w : W0} {κ : AH} {p : Nat} {l : LSt} {x : Int32} {σ : MS} {nb : Nat} (A : AK κ) (hc : chn σ nb) (hb40 : nb ≤ 40) (hm : ∀ i, i < nb → l 5 i = σ.2 17 i) (hx : x = -1 ∨ ∃ i, i < nb ∧ x = nI i) : CY w yL_whole mL_whole [.ref (tM 5), .int x] (PL κ p l) (fun v κ' => v = some (.int (if x = -1 then -1 else whl σ x)) ∧ κ' = PL κ p l) := by
  refine CY_of mcL_whole (Nat.le_of_ble_eq_true rfl) (cat1 rfl) (fun θ0 => ?_)
  have K2 : ∀ n i : Nat, i < nb → nb ≤ n + i → ∀ y : Option Value, whl σ x = whl σ (nI i) → ¬ x = -1 → Y w mL_whole θ0 (PL κ p l) (fun v κ' => v = some (.int (if x = -1 then -1 else whl σ x)) ∧ κ' = PL κ p l) (fun _ _ => False) 0 0 2 [some (.ref (tM 5)), some (.int x), some (.int (nI i))] [] (PL κ p l) := by
    intro n
    induction n with
      | zero => intro i hi hn; omega
      | succ n ih =>
        intro i hi hn y hw hx1
        refine runL_go (κ := κ) (p := p) rkL_whole (fun p => Nat.beq p 2) 300 rfl ?_
        have hi0 : ¬ nI i < 0 := nI_pos (by omega)
        refine And.intro (fun c => absurd c hi0) (fun c1 => ?_)
        refine ⟨5, i, A.ld (by decide) (show i < 40 by omega) rfl, ?_⟩
        rw [hm i hi]
        refine And.intro (fun c2 => ?_) (fun c2 => ?_)
        · refine And.intro ⟨Nat.le_of_ble_eq_true rfl, Nat.le_of_ble_eq_true rfl⟩ ?_
          rcases hc.2 i hi with h1 | ⟨k, h1, h2, h3⟩
          · exact ⟨by rw [if_neg hx1, hw, whl_n hc hi h1], rfl⟩
          · exact absurd (by rw [← h3]; exact c2) (nI_pos (n := k) (by omega))
        · refine ⟨5, i, A.ld (by decide) (show i < 40 by omega) rfl, ?_⟩
          rw [hm i hi]
          rcases hc.2 i hi with h1 | ⟨k, h1, h2, h3⟩
          · exact absurd (by rw [h1]; decide) c2
          · rw [h3]
            exact ih k h2 (by omega) none (hw.trans (whl_s hc hi h3 h2 h1)) hx1
  refine runL_ok rkL_whole (fun p => Nat.beq p 2) 300 _ _ _ _ _ _ ?_
  rcases hx with rfl | ⟨i, hi, rfl⟩
  · refine runL_go (κ := κ) (p := p) rkL_whole noCut 300 rfl ?_
    refine And.intro (fun c => ?_) (fun c => absurd (by decide) c)
    exact And.intro ⟨Nat.le_of_ble_eq_true rfl, Nat.le_of_ble_eq_true rfl⟩ ⟨by rw [if_pos rfl], rfl⟩
  · exact K2 nb i hi (by omega) none rfl (nI_mm (by omega))

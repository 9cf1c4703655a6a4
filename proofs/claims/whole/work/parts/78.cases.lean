
/-! THE LAW: each case -/
theorem cmp_0 (x : Int64) : lg_cmp x x = 0 := by
  unfold lg_cmp
  simp
/-- what holds where a call begins -/
def LI (κ : AH) (σ : MS) : Prop := RE κ κ σ ∧ JT κ ∧ JM κ σ ∧ (gT κ (tM 41) = 13 ∧ gN κ (tM 41) = 1) ∧ gT κ (tM 40) = 0
theorem okK_n {κ : AH} : okK κ [] := fun _ h => nomatch h
theorem okK_r {κ : AH} {a k : Nat} {l : List Value} (h : gT κ a = k + 1) (hl : okK κ l) : okK κ (.ref a :: l) := okK_cons (show gT κ a ≠ 0 by rw [h]; omega) hl
theorem okK_i {κ : AH} {x : Int32} {l : List Value} (hl : okK κ l) : okK κ (.int x :: l) := okK_cons trivial hl
theorem mkd_lt {k : Nat} (h : mkd k ≠ 0) : k < 35 := by
  refine Classical.byContradiction fun z => h ?_
  unfold mkd
  split <;> first | rfl | omega
theorem FM_of {κ0 κ : AH} {σ : MS} (h : RE κ0 κ σ) : FM κ0 κ := by
  obtain ⟨_, _, _, _, h⟩ := h
  exact h.2.2
theorem JT_f {κ κ' : AH} (h : JT κ) (f : FM κ κ') : JT κ' := ⟨(f 0).1.trans h.1, fun k hk => ⟨((f 0).2.2.2 k).trans (h.2 k hk).1, (f (k + 1)).1.trans (h.2 k hk).2.1, (f (k + 1)).2.1.trans (h.2 k hk).2.2⟩⟩
theorem JM_f {κ κ' : AH} {σ : MS} (h : JM κ σ) (f : FM κ κ') : JM κ' σ := ⟨fun k => ((f 0).2.2.1 k).trans (h.1 k), fun k hk i => ((f (k + 1)).2.2.1 i).trans (h.2 k hk i)⟩
theorem LI_next {κ κ1 : AH} {σ τ : MS} (h : LI κ σ) (hr : RE κ κ1 τ) : LI (PM ivT τ κ1) τ := by
  have f := FM_of hr
  exact ⟨RE_PM hr, JT_PM (JT_f h.2.1 f), PM_JM, ⟨(f 41).1.trans h.2.2.2.1.1, (f 41).2.1.trans h.2.2.2.1.2⟩, (f 40).1.trans h.2.2.2.2⟩
theorem sc_ok {len n j : Nat} {y : Int32} (hl : len ≤ 3584) (hn : 7 * n + 7 ≤ len) (hj : j < 7) (e : y = nI (7 * n + j)) : tM 40 = tM 40 ∧ vp_in y len := by
  rw [e]
  exact ⟨rfl, vp_in_nI (by omega) (by omega)⟩
theorem wb_or {κ0 κ : AH} {σ : MS} {nb nw np : Nat} {wb : Nat → Nat} (h : RI κ0 κ σ nb nw np wb) : ∀ k, k < nw → σ.2 24 k = -1 ∨ ∃ j, j < nb ∧ σ.2 24 k = nI j := fun k hk => by
  have q := (h.2.1.2.2.2.1.2.1 k hk).2
  by_cases e : σ.2 24 k = -1
  · exact Or.inl e
  · exact Or.inr ⟨_, q.1, q.2.2.2 e⟩
theorem wb_in {κ0 κ : AH} {σ : MS} {nb nw np : Nat} {wb : Nat → Nat} (h : RI κ0 κ σ nb nw np wb) {k : Int32} (hk : isWld σ k) : k.toNatClampNeg < nw ∧ (σ.2 24 k.toNatClampNeg = -1 ∨ vp_in (σ.2 24 k.toNatClampNeg) 60) := by
  have I := h.1
  have h8 := I.n8
  have hl := (isB_nI I.n18 ((isB_wld I.n18 I.e18).mp hk)).1
  refine ⟨hl, (wb_or h _ hl).imp id fun ⟨j, a, b⟩ => ?_⟩
  rw [b]
  exact vp_in_nI (N := 60) (by omega) (by decide)
theorem blk_lt {κ0 κ : AH} {σ : MS} {nb nw np : Nat} {wb : Nat → Nat} (h : RI κ0 κ σ nb nw np wb) {b : Int32} (hb : isBlk σ b) : b.toNatClampNeg < nb := (isB_nI (by have := h.1.n8; omega) ((isB_blk h.1.n8 h.1.e8).mp hb)).1
theorem rat_in {κ0 κ : AH} {σ : MS} {nb nw np : Nat} {wb : Nat → Nat} (h : RI κ0 κ σ nb nw np wb) {p q : Int32} (h0 : kRat σ p q = 0) (h1 : q < σ.2 31 p.toNatClampNeg) : vp_in (36 * p + q) 1080 := by
  have I := h.1
  have hc : (0 ≤ p ∧ p ≤ σ.1 30 - 1) ∧ 0 ≤ q := by
    unfold kRat at h0
    split at h0
    · assumption
    · exact absurd h0 (by decide)
  have h30 := I.n30
  have hp : isB np p := by
    have hpos : np ≠ 0 := fun z => by
      have := hc.1.2
      rw [I.e30, z] at this
      exact absurd (Int32.le_trans hc.1.1 this) (by decide)
    obtain ⟨k, rfl⟩ : ∃ k, np = k + 1 := ⟨np - 1, by omega⟩
    refine ⟨hc.1.1, ?_⟩
    have := hc.1.2
    rw [I.e30, nI_pred] at this
    have a1 : (nI k).toInt = k := nI_toInt (by omega)
    have a2 : (nI (k + 1)).toInt = (k + 1 : Nat) := nI_toInt (by omega)
    have := Int32.le_iff_toInt_le.mp this
    exact Int32.lt_iff_toInt_lt.mpr (by omega)
  obtain ⟨hl, ep⟩ := isB_nI (by omega) hp
  obtain ⟨N, hN, eN⟩ := I.pl _ hl
  rw [eN] at h1
  have hq : isB N q := ⟨hc.2, h1⟩
  obtain ⟨hl2, eq⟩ := isB_nI (by omega) hq
  rw [ep, eq, show (36 : Int32) = nI 36 from rfl, nI_mul, nI_add]
  exact vp_in_nI (by omega) (by decide)
abbrev lQv : Option Value → Prop := fun v => v = some (.int 1)
abbrev LL (n : Nat) (x5 x6 : Option Value) : List (Option Value) := [some (.ref (tM 40)), some (.ref (tS 4)), some (.ref (tM 0)), some (.ref (tM 41)), some (.int (nI (7 * n))), x5, x6]
set_option maxRecDepth 20000 in
theorem lc_hall {w : W0} {κ : AH} {σ : MS} {n kc ns : Nat} {x5 x6 : Option Value} (hL : LI κ σ) (hn : 7 * n + 7 ≤ w.lX) (hlen : w.lX ≤ 3584) (hkc : kc ≤ 100 + 20 * n) (hns : ns ≤ 4000 + 200 * n) (K : ∀ (κ' : AH) (σ' : MS) (kc' ns' : Nat) (y5 y6 : Option Value), LI κ' σ' → kc' ≤ 100 + 20 * (n + 1) → ns' ≤ 4000 + 200 * (n + 1) → YS w lQv kc' ns' 1729 (LL n y5 y6) [] κ') : YS w lQv kc ns 180 (LL n x5 x6) [] κ := by
  obtain ⟨nb, nw, np, wb, hRI⟩ := hL.1
  have I := hRI.1
  have h40 := hL.2.2.2.2
  have h4 := hRI.2.1.1.t4
  refine runS_ok (fun p => Nat.beq p 1729) 80 _ _ _ _ _ _ ?_
  refine And.intro (sc_ok hlen hn (j := 1) (by decide) (nI_add (7 * n) 1)) ?_
  refine And.intro (sc_ok hlen hn (j := 2) (by decide) (nI_add (7 * n) 2)) ?_
  refine sL_law_194 rfl (Nat.ble_eq_true_of_le (by omega)) (Nat.ble_eq_true_of_le (by omega)) (okK_r h4 (okK_i (okK_i (okK_r hL.2.2.2.1.1 okK_n)))) (h_hall hRI hL.2.2.2.1) (fun v κ1 q hok1 hkp1 => ?_)
  obtain ⟨e9, hre, hgl⟩ := q
  subst e9
  have f := FM_of hre
  have hJT := JT_f hL.2.1 f
  have hJM := JM_f hL.2.2.1 f
  have h401 : gT κ1 (tM 40) = 0 := (f 40).1.trans h40
  refine ⟨h401, ?_⟩
  refine runS_ok (fun p => Nat.beq p 1729) 80 _ _ _ _ _ _ ?_
  refine And.intro (sc_ok hlen hn (j := 1) (by decide) (nI_add (7 * n) 1)) ?_
  refine And.intro (sc_ok hlen hn (j := 2) (by decide) (nI_add (7 * n) 2)) ?_
  refine sL_law_212 rfl (Nat.ble_eq_true_of_le (by omega)) (Nat.ble_eq_true_of_le (by omega)) hJT.1 (okK_r hJT.1 (okK_i (okK_i okK_n))) (CY_CM (as := [(w.xs (nI (7 * n) + 1).toNatClampNeg), (w.xs (nI (7 * n) + 2).toNatClampNeg)]) hJT hJM (fun m iv h hm => c_X9_hall hm)) (fun v κ2 q hok2 hkp2 => ?_)
  obtain ⟨r, σ2, e1, e2, e3, e4⟩ := q
  subst e3 e4 e1 e2
  refine ⟨h401, ?_⟩
  refine runS_ok (fun p => Nat.beq p 1729) 80 _ _ _ _ _ _ ?_
  refine sL_law_218 rfl (Nat.ble_eq_true_of_le (by omega)) (Nat.ble_eq_true_of_le (by omega)) hJT.1 (okK_r hJT.1 okK_n) (CY_CM (as := []) (JT_PM hJT) PM_JM (fun m iv h hm => c_X9_thrown hm)) (fun v κ3 q hok3 hkp3 => ?_)
  obtain ⟨r, σ3, e1, e2, e3, e4⟩ := q
  subst e3 e4 e1 e2
  refine ⟨h401, ?_⟩
  rw [JM_PM PM_JM]
  refine runS_ok (fun p => Nat.beq p 1729) 80 _ _ _ _ _ _ ?_
  refine And.intro (fun _ => ?_) (fun c => absurd rfl c)
  refine And.intro (fun _ => ?_) (fun c => ?_)
  · exact K _ _ _ _ _ _ (LI_next hL hre) (by omega) (by omega)
  · refine And.intro ⟨(f 41).1.trans hL.2.2.2.1.1, by rw [show gN (PM ivT _ κ1) (tM 41) = gN κ1 (tM 41) from rfl, (f 41).2.1, hL.2.2.2.1.2]; exact vp_in_nI (n := 0) (by decide) (by decide)⟩ ?_
    refine And.intro (fun _ => ?_) (fun c3 => ?_)
    · exact K _ _ _ _ _ _ (LI_next hL hre) (by omega) (by omega)
    · exfalso
      refine c3 ?_
      have hg := hgl c
      refine Eq.trans (congrArg (fun z => lg_cmp z _) (show _ = _ from hg)) ?_
      exact cmp_0 _
set_option maxRecDepth 20000 in
theorem lc_crane {w : W0} {κ : AH} {σ : MS} {n kc ns : Nat} {x5 x6 : Option Value} (hL : LI κ σ) (hn : 7 * n + 7 ≤ w.lX) (hlen : w.lX ≤ 3584) (hkc : kc ≤ 100 + 20 * n) (hns : ns ≤ 4000 + 200 * n) (K : ∀ (κ' : AH) (σ' : MS) (kc' ns' : Nat) (y5 y6 : Option Value), LI κ' σ' → kc' ≤ 100 + 20 * (n + 1) → ns' ≤ 4000 + 200 * (n + 1) → YS w lQv kc' ns' 1729 (LL n y5 y6) [] κ') : YS w lQv kc ns 248 (LL n x5 x6) [] κ := by
  obtain ⟨nb, nw, np, wb, hRI⟩ := hL.1
  have I := hRI.1
  have h40 := hL.2.2.2.2
  have h4 := hRI.2.1.1.t4
  refine runS_ok (fun p => Nat.beq p 1729) 80 _ _ _ _ _ _ ?_
  refine And.intro (sc_ok hlen hn (j := 1) (by decide) (nI_add (7 * n) 1)) ?_
  refine And.intro (sc_ok hlen hn (j := 2) (by decide) (nI_add (7 * n) 2)) ?_
  refine sL_law_262 rfl (Nat.ble_eq_true_of_le (by omega)) (Nat.ble_eq_true_of_le (by omega)) (okK_r h4 (okK_i (okK_i (okK_r hL.2.2.2.1.1 okK_n)))) (h_crane hRI hL.2.2.2.1) (fun v κ1 q hok1 hkp1 => ?_)
  obtain ⟨e9, hre, hgl⟩ := q
  subst e9
  have f := FM_of hre
  have hJT := JT_f hL.2.1 f
  have hJM := JM_f hL.2.2.1 f
  have h401 : gT κ1 (tM 40) = 0 := (f 40).1.trans h40
  refine ⟨h401, ?_⟩
  refine runS_ok (fun p => Nat.beq p 1729) 80 _ _ _ _ _ _ ?_
  refine And.intro (sc_ok hlen hn (j := 1) (by decide) (nI_add (7 * n) 1)) ?_
  refine And.intro (sc_ok hlen hn (j := 2) (by decide) (nI_add (7 * n) 2)) ?_
  refine sL_law_280 rfl (Nat.ble_eq_true_of_le (by omega)) (Nat.ble_eq_true_of_le (by omega)) hJT.1 (okK_r hJT.1 (okK_i (okK_i okK_n))) (CY_CM (as := [(w.xs (nI (7 * n) + 1).toNatClampNeg), (w.xs (nI (7 * n) + 2).toNatClampNeg)]) hJT hJM (fun m iv h hm => c_X9_crane hm)) (fun v κ2 q hok2 hkp2 => ?_)
  obtain ⟨r, σ2, e1, e2, e3, e4⟩ := q
  subst e3 e4 e1 e2
  refine ⟨h401, ?_⟩
  refine runS_ok (fun p => Nat.beq p 1729) 80 _ _ _ _ _ _ ?_
  refine sL_law_286 rfl (Nat.ble_eq_true_of_le (by omega)) (Nat.ble_eq_true_of_le (by omega)) hJT.1 (okK_r hJT.1 okK_n) (CY_CM (as := []) (JT_PM hJT) PM_JM (fun m iv h hm => c_X9_thrown hm)) (fun v κ3 q hok3 hkp3 => ?_)
  obtain ⟨r, σ3, e1, e2, e3, e4⟩ := q
  subst e3 e4 e1 e2
  refine ⟨h401, ?_⟩
  rw [JM_PM PM_JM]
  refine runS_ok (fun p => Nat.beq p 1729) 80 _ _ _ _ _ _ ?_
  refine And.intro (fun _ => ?_) (fun c => absurd rfl c)
  refine And.intro (fun _ => ?_) (fun c => ?_)
  · exact K _ _ _ _ _ _ (LI_next hL hre) (by omega) (by omega)
  · refine And.intro ⟨(f 41).1.trans hL.2.2.2.1.1, by rw [show gN (PM ivT _ κ1) (tM 41) = gN κ1 (tM 41) from rfl, (f 41).2.1, hL.2.2.2.1.2]; exact vp_in_nI (n := 0) (by decide) (by decide)⟩ ?_
    refine And.intro (fun _ => ?_) (fun c3 => ?_)
    · exact K _ _ _ _ _ _ (LI_next hL hre) (by omega) (by omega)
    · exfalso
      refine c3 ?_
      have hg := hgl c
      refine Eq.trans (congrArg (fun z => lg_cmp z _) (show _ = _ from hg)) ?_
      exact cmp_0 _
set_option maxRecDepth 20000 in
theorem lc_welder {w : W0} {κ : AH} {σ : MS} {n kc ns : Nat} {x5 x6 : Option Value} (hL : LI κ σ) (hn : 7 * n + 7 ≤ w.lX) (hlen : w.lX ≤ 3584) (hkc : kc ≤ 100 + 20 * n) (hns : ns ≤ 4000 + 200 * n) (K : ∀ (κ' : AH) (σ' : MS) (kc' ns' : Nat) (y5 y6 : Option Value), LI κ' σ' → kc' ≤ 100 + 20 * (n + 1) → ns' ≤ 4000 + 200 * (n + 1) → YS w lQv kc' ns' 1729 (LL n y5 y6) [] κ') : YS w lQv kc ns 316 (LL n x5 x6) [] κ := by
  obtain ⟨nb, nw, np, wb, hRI⟩ := hL.1
  have I := hRI.1
  have h40 := hL.2.2.2.2
  have h4 := hRI.2.1.1.t4
  refine runS_ok (fun p => Nat.beq p 1729) 80 _ _ _ _ _ _ ?_
  refine And.intro (sc_ok hlen hn (j := 1) (by decide) (nI_add (7 * n) 1)) ?_
  refine And.intro (sc_ok hlen hn (j := 2) (by decide) (nI_add (7 * n) 2)) ?_
  refine sL_law_330 rfl (Nat.ble_eq_true_of_le (by omega)) (Nat.ble_eq_true_of_le (by omega)) (okK_r h4 (okK_i (okK_i (okK_r hL.2.2.2.1.1 okK_n)))) (h_welder hRI hL.2.2.2.1) (fun v κ1 q hok1 hkp1 => ?_)
  obtain ⟨e9, hre, hgl⟩ := q
  subst e9
  have f := FM_of hre
  have hJT := JT_f hL.2.1 f
  have hJM := JM_f hL.2.2.1 f
  have h401 : gT κ1 (tM 40) = 0 := (f 40).1.trans h40
  refine ⟨h401, ?_⟩
  refine runS_ok (fun p => Nat.beq p 1729) 80 _ _ _ _ _ _ ?_
  refine And.intro (sc_ok hlen hn (j := 1) (by decide) (nI_add (7 * n) 1)) ?_
  refine And.intro (sc_ok hlen hn (j := 2) (by decide) (nI_add (7 * n) 2)) ?_
  refine sL_law_348 rfl (Nat.ble_eq_true_of_le (by omega)) (Nat.ble_eq_true_of_le (by omega)) hJT.1 (okK_r hJT.1 (okK_i (okK_i okK_n))) (CY_CM (as := [(w.xs (nI (7 * n) + 1).toNatClampNeg), (w.xs (nI (7 * n) + 2).toNatClampNeg)]) hJT hJM (fun m iv h hm => c_X9_welder hm)) (fun v κ2 q hok2 hkp2 => ?_)
  obtain ⟨r, σ2, e1, e2, e3, e4⟩ := q
  subst e3 e4 e1 e2
  refine ⟨h401, ?_⟩
  refine runS_ok (fun p => Nat.beq p 1729) 80 _ _ _ _ _ _ ?_
  refine sL_law_354 rfl (Nat.ble_eq_true_of_le (by omega)) (Nat.ble_eq_true_of_le (by omega)) hJT.1 (okK_r hJT.1 okK_n) (CY_CM (as := []) (JT_PM hJT) PM_JM (fun m iv h hm => c_X9_thrown hm)) (fun v κ3 q hok3 hkp3 => ?_)
  obtain ⟨r, σ3, e1, e2, e3, e4⟩ := q
  subst e3 e4 e1 e2
  refine ⟨h401, ?_⟩
  rw [JM_PM PM_JM]
  refine runS_ok (fun p => Nat.beq p 1729) 80 _ _ _ _ _ _ ?_
  refine And.intro (fun _ => ?_) (fun c => absurd rfl c)
  refine And.intro (fun _ => ?_) (fun c => ?_)
  · exact K _ _ _ _ _ _ (LI_next hL hre) (by omega) (by omega)
  · refine And.intro ⟨(f 41).1.trans hL.2.2.2.1.1, by rw [show gN (PM ivT _ κ1) (tM 41) = gN κ1 (tM 41) from rfl, (f 41).2.1, hL.2.2.2.1.2]; exact vp_in_nI (n := 0) (by decide) (by decide)⟩ ?_
    refine And.intro (fun _ => ?_) (fun c3 => ?_)
    · exact K _ _ _ _ _ _ (LI_next hL hre) (by omega) (by omega)
    · exfalso
      refine c3 ?_
      have hg := hgl c
      refine Eq.trans (congrArg (fun z => lg_cmp z _) (show _ = _ from hg)) ?_
      exact cmp_0 _
set_option maxRecDepth 20000 in
theorem lc_draw {w : W0} {κ : AH} {σ : MS} {n kc ns : Nat} {x5 x6 : Option Value} (hL : LI κ σ) (hn : 7 * n + 7 ≤ w.lX) (hlen : w.lX ≤ 3584) (hkc : kc ≤ 100 + 20 * n) (hns : ns ≤ 4000 + 200 * n) (K : ∀ (κ' : AH) (σ' : MS) (kc' ns' : Nat) (y5 y6 : Option Value), LI κ' σ' → kc' ≤ 100 + 20 * (n + 1) → ns' ≤ 4000 + 200 * (n + 1) → YS w lQv kc' ns' 1729 (LL n y5 y6) [] κ') : YS w lQv kc ns 384 (LL n x5 x6) [] κ := by
  obtain ⟨nb, nw, np, wb, hRI⟩ := hL.1
  have I := hRI.1
  have h40 := hL.2.2.2.2
  have h4 := hRI.2.1.1.t4
  refine runS_ok (fun p => Nat.beq p 1729) 80 _ _ _ _ _ _ ?_
  refine And.intro (sc_ok hlen hn (j := 1) (by decide) (nI_add (7 * n) 1)) ?_
  refine sL_law_391 rfl (Nat.ble_eq_true_of_le (by omega)) (Nat.ble_eq_true_of_le (by omega)) h4 (okK_r h4 (okK_i okK_n)) (k_draw (κ0 := κ) hRI) (fun v κ1 q hok1 hkp1 => ?_)
  obtain ⟨h34, e9, hre⟩ := q
  subst e9
  have f := FM_of hre
  have hJT := JT_f hL.2.1 f
  have hJM := JM_f hL.2.2.1 f
  have h401 : gT κ1 (tM 40) = 0 := (f 40).1.trans h40
  refine ⟨h401, ?_⟩
  refine runS_ok (fun p => Nat.beq p 1729) 80 _ _ _ _ _ _ ?_
  refine And.intro (sc_ok hlen hn (j := 1) (by decide) (nI_add (7 * n) 1)) ?_
  refine sL_law_401 rfl (Nat.ble_eq_true_of_le (by omega)) (Nat.ble_eq_true_of_le (by omega)) hJT.1 (okK_r hJT.1 (okK_i okK_n)) (CY_CM (as := [(w.xs (nI (7 * n) + 1).toNatClampNeg)]) hJT hJM (fun m iv h hm => c_X9_draw hm)) (fun v κ2 q hok2 hkp2 => ?_)
  obtain ⟨r, σ2, e1, e2, e3, e4⟩ := q
  subst e3 e4 e1 e2
  refine ⟨h401, ?_⟩
  refine runS_ok (fun p => Nat.beq p 1729) 80 _ _ _ _ _ _ ?_
  refine And.intro (fun _ => ?_) (fun c => absurd rfl c)
  exact K _ _ _ _ _ _ (LI_next hL hre) (by omega) (by omega)
set_option maxRecDepth 20000 in
theorem lc_block {w : W0} {κ : AH} {σ : MS} {n kc ns : Nat} {x5 x6 : Option Value} (hL : LI κ σ) (hn : 7 * n + 7 ≤ w.lX) (hlen : w.lX ≤ 3584) (hkc : kc ≤ 100 + 20 * n) (hns : ns ≤ 4000 + 200 * n) (K : ∀ (κ' : AH) (σ' : MS) (kc' ns' : Nat) (y5 y6 : Option Value), LI κ' σ' → kc' ≤ 100 + 20 * (n + 1) → ns' ≤ 4000 + 200 * (n + 1) → YS w lQv kc' ns' 1729 (LL n y5 y6) [] κ') : YS w lQv kc ns 409 (LL n x5 x6) [] κ := by
  obtain ⟨nb, nw, np, wb, hRI⟩ := hL.1
  have I := hRI.1
  have h40 := hL.2.2.2.2
  have h4 := hRI.2.1.1.t4
  refine runS_ok (fun p => Nat.beq p 1729) 80 _ _ _ _ _ _ ?_
  refine And.intro (sc_ok hlen hn (j := 1) (by decide) (nI_add (7 * n) 1)) ?_
  refine And.intro (sc_ok hlen hn (j := 2) (by decide) (nI_add (7 * n) 2)) ?_
  refine And.intro (sc_ok hlen hn (j := 3) (by decide) (nI_add (7 * n) 3)) ?_
  refine And.intro (sc_ok hlen hn (j := 4) (by decide) (nI_add (7 * n) 4)) ?_
  refine And.intro (sc_ok hlen hn (j := 5) (by decide) (nI_add (7 * n) 5)) ?_
  refine And.intro (sc_ok hlen hn (j := 6) (by decide) (nI_add (7 * n) 6)) ?_
  refine sL_law_448 rfl (Nat.ble_eq_true_of_le (by omega)) (Nat.ble_eq_true_of_le (by omega)) (okK_r h4 (okK_i (okK_i (okK_i (okK_i (okK_i (okK_i (okK_r hL.2.2.2.1.1 okK_n)))))))) (h_block hRI hL.2.2.2.1) (fun v κ1 q hok1 hkp1 => ?_)
  obtain ⟨e9, hre, hgl⟩ := q
  subst e9
  have f := FM_of hre
  have hJT := JT_f hL.2.1 f
  have hJM := JM_f hL.2.2.1 f
  have h401 : gT κ1 (tM 40) = 0 := (f 40).1.trans h40
  refine ⟨h401, ?_⟩
  refine runS_ok (fun p => Nat.beq p 1729) 80 _ _ _ _ _ _ ?_
  refine And.intro (sc_ok hlen hn (j := 1) (by decide) (nI_add (7 * n) 1)) ?_
  refine And.intro (sc_ok hlen hn (j := 2) (by decide) (nI_add (7 * n) 2)) ?_
  refine And.intro (sc_ok hlen hn (j := 3) (by decide) (nI_add (7 * n) 3)) ?_
  refine And.intro (sc_ok hlen hn (j := 4) (by decide) (nI_add (7 * n) 4)) ?_
  refine And.intro (sc_ok hlen hn (j := 5) (by decide) (nI_add (7 * n) 5)) ?_
  refine And.intro (sc_ok hlen hn (j := 6) (by decide) (nI_add (7 * n) 6)) ?_
  refine sL_law_491 rfl (Nat.ble_eq_true_of_le (by omega)) (Nat.ble_eq_true_of_le (by omega)) hJT.1 (okK_r hJT.1 (okK_i (okK_i (okK_i (okK_i (okK_i (okK_i okK_n))))))) (CY_CM (as := [(w.xs (nI (7 * n) + 1).toNatClampNeg), (w.xs (nI (7 * n) + 2).toNatClampNeg), (w.xs (nI (7 * n) + 3).toNatClampNeg), (w.xs (nI (7 * n) + 4).toNatClampNeg), (w.xs (nI (7 * n) + 5).toNatClampNeg), (w.xs (nI (7 * n) + 6).toNatClampNeg)]) hJT hJM (fun m iv h hm => c_X9_block hm I.b0.1 I.b0.2)) (fun v κ2 q hok2 hkp2 => ?_)
  obtain ⟨r, σ2, e1, e2, e3, e4⟩ := q
  subst e3 e4 e1 e2
  refine ⟨h401, ?_⟩
  refine runS_ok (fun p => Nat.beq p 1729) 80 _ _ _ _ _ _ ?_
  refine sL_law_497 rfl (Nat.ble_eq_true_of_le (by omega)) (Nat.ble_eq_true_of_le (by omega)) hJT.1 (okK_r hJT.1 okK_n) (CY_CM (as := []) (JT_PM hJT) PM_JM (fun m iv h hm => c_X9_thrown hm)) (fun v κ3 q hok3 hkp3 => ?_)
  obtain ⟨r, σ3, e1, e2, e3, e4⟩ := q
  subst e3 e4 e1 e2
  refine ⟨h401, ?_⟩
  rw [JM_PM PM_JM]
  refine runS_ok (fun p => Nat.beq p 1729) 80 _ _ _ _ _ _ ?_
  refine And.intro (fun _ => ?_) (fun c => absurd rfl c)
  refine And.intro (fun _ => ?_) (fun c => ?_)
  · exact K _ _ _ _ _ _ (LI_next hL hre) (by omega) (by omega)
  · refine And.intro ⟨(f 41).1.trans hL.2.2.2.1.1, by rw [show gN (PM ivT _ κ1) (tM 41) = gN κ1 (tM 41) from rfl, (f 41).2.1, hL.2.2.2.1.2]; exact vp_in_nI (n := 0) (by decide) (by decide)⟩ ?_
    refine And.intro (fun _ => ?_) (fun c3 => ?_)
    · exact K _ _ _ _ _ _ (LI_next hL hre) (by omega) (by omega)
    · exfalso
      refine c3 ?_
      have hg := hgl c
      refine Eq.trans (congrArg (fun z => lg_cmp z _) (show _ = _ from hg)) ?_
      exact cmp_0 _
set_option maxRecDepth 20000 in
theorem lc_join {w : W0} {κ : AH} {σ : MS} {n kc ns : Nat} {x5 x6 : Option Value} (hL : LI κ σ) (hn : 7 * n + 7 ≤ w.lX) (hlen : w.lX ≤ 3584) (hkc : kc ≤ 100 + 20 * n) (hns : ns ≤ 4000 + 200 * n) (K : ∀ (κ' : AH) (σ' : MS) (kc' ns' : Nat) (y5 y6 : Option Value), LI κ' σ' → kc' ≤ 100 + 20 * (n + 1) → ns' ≤ 4000 + 200 * (n + 1) → YS w lQv kc' ns' 1729 (LL n y5 y6) [] κ') : YS w lQv kc ns 527 (LL n x5 x6) [] κ := by
  obtain ⟨nb, nw, np, wb, hRI⟩ := hL.1
  have I := hRI.1
  have h40 := hL.2.2.2.2
  have h4 := hRI.2.1.1.t4
  refine runS_ok (fun p => Nat.beq p 1729) 80 _ _ _ _ _ _ ?_
  refine And.intro (sc_ok hlen hn (j := 1) (by decide) (nI_add (7 * n) 1)) ?_
  refine And.intro (sc_ok hlen hn (j := 2) (by decide) (nI_add (7 * n) 2)) ?_
  refine And.intro (sc_ok hlen hn (j := 3) (by decide) (nI_add (7 * n) 3)) ?_
  refine sL_law_547 rfl (Nat.ble_eq_true_of_le (by omega)) (Nat.ble_eq_true_of_le (by omega)) (okK_r h4 (okK_i (okK_i (okK_i (okK_r hL.2.2.2.1.1 okK_n))))) (h_join hRI hL.2.2.2.1) (fun v κ1 q hok1 hkp1 => ?_)
  obtain ⟨e9, hre, hgl⟩ := q
  subst e9
  have f := FM_of hre
  have hJT := JT_f hL.2.1 f
  have hJM := JM_f hL.2.2.1 f
  have h401 : gT κ1 (tM 40) = 0 := (f 40).1.trans h40
  refine ⟨h401, ?_⟩
  refine runS_ok (fun p => Nat.beq p 1729) 80 _ _ _ _ _ _ ?_
  refine And.intro (sc_ok hlen hn (j := 1) (by decide) (nI_add (7 * n) 1)) ?_
  refine And.intro (sc_ok hlen hn (j := 2) (by decide) (nI_add (7 * n) 2)) ?_
  refine And.intro (sc_ok hlen hn (j := 3) (by decide) (nI_add (7 * n) 3)) ?_
  refine sL_law_571 rfl (Nat.ble_eq_true_of_le (by omega)) (Nat.ble_eq_true_of_le (by omega)) hJT.1 (okK_r hJT.1 (okK_i (okK_i (okK_i okK_n)))) (CY_CM (as := [(w.xs (nI (7 * n) + 1).toNatClampNeg), (w.xs (nI (7 * n) + 2).toNatClampNeg), (w.xs (nI (7 * n) + 3).toNatClampNeg)]) hJT hJM (fun m iv h hm => c_X9_join hm I.b0.1 I.b0.2 I.w0.1 I.w0.2)) (fun v κ2 q hok2 hkp2 => ?_)
  obtain ⟨r, σ2, e1, e2, e3, e4⟩ := q
  subst e3 e4 e1 e2
  refine ⟨h401, ?_⟩
  refine runS_ok (fun p => Nat.beq p 1729) 80 _ _ _ _ _ _ ?_
  refine sL_law_577 rfl (Nat.ble_eq_true_of_le (by omega)) (Nat.ble_eq_true_of_le (by omega)) hJT.1 (okK_r hJT.1 okK_n) (CY_CM (as := []) (JT_PM hJT) PM_JM (fun m iv h hm => c_X9_thrown hm)) (fun v κ3 q hok3 hkp3 => ?_)
  obtain ⟨r, σ3, e1, e2, e3, e4⟩ := q
  subst e3 e4 e1 e2
  refine ⟨h401, ?_⟩
  rw [JM_PM PM_JM]
  refine runS_ok (fun p => Nat.beq p 1729) 80 _ _ _ _ _ _ ?_
  refine And.intro (fun _ => ?_) (fun c => absurd rfl c)
  refine And.intro (fun _ => ?_) (fun c => ?_)
  · exact K _ _ _ _ _ _ (LI_next hL hre) (by omega) (by omega)
  · refine And.intro ⟨(f 41).1.trans hL.2.2.2.1.1, by rw [show gN (PM ivT _ κ1) (tM 41) = gN κ1 (tM 41) from rfl, (f 41).2.1, hL.2.2.2.1.2]; exact vp_in_nI (n := 0) (by decide) (by decide)⟩ ?_
    refine And.intro (fun _ => ?_) (fun c3 => ?_)
    · exact K _ _ _ _ _ _ (LI_next hL hre) (by omega) (by omega)
    · exfalso
      refine c3 ?_
      have hg := hgl c
      refine Eq.trans (congrArg (fun z => lg_cmp z _) (show _ = _ from hg)) ?_
      exact cmp_0 _
set_option maxRecDepth 20000 in
theorem lc_erect {w : W0} {κ : AH} {σ : MS} {n kc ns : Nat} {x5 x6 : Option Value} (hL : LI κ σ) (hn : 7 * n + 7 ≤ w.lX) (hlen : w.lX ≤ 3584) (hkc : kc ≤ 100 + 20 * n) (hns : ns ≤ 4000 + 200 * n) (K : ∀ (κ' : AH) (σ' : MS) (kc' ns' : Nat) (y5 y6 : Option Value), LI κ' σ' → kc' ≤ 100 + 20 * (n + 1) → ns' ≤ 4000 + 200 * (n + 1) → YS w lQv kc' ns' 1729 (LL n y5 y6) [] κ') : YS w lQv kc ns 607 (LL n x5 x6) [] κ := by
  obtain ⟨nb, nw, np, wb, hRI⟩ := hL.1
  have I := hRI.1
  have h40 := hL.2.2.2.2
  have h4 := hRI.2.1.1.t4
  refine runS_ok (fun p => Nat.beq p 1729) 80 _ _ _ _ _ _ ?_
  refine And.intro (sc_ok hlen hn (j := 1) (by decide) (nI_add (7 * n) 1)) ?_
  refine And.intro (sc_ok hlen hn (j := 2) (by decide) (nI_add (7 * n) 2)) ?_
  refine sL_law_621 rfl (Nat.ble_eq_true_of_le (by omega)) (Nat.ble_eq_true_of_le (by omega)) (okK_r h4 (okK_i (okK_i (okK_r hL.2.2.2.1.1 okK_n)))) (h_erect hRI hL.2.2.2.1) (fun v κ1 q hok1 hkp1 => ?_)
  obtain ⟨e9, hre, hgl⟩ := q
  subst e9
  have f := FM_of hre
  have hJT := JT_f hL.2.1 f
  have hJM := JM_f hL.2.2.1 f
  have h401 : gT κ1 (tM 40) = 0 := (f 40).1.trans h40
  refine ⟨h401, ?_⟩
  refine runS_ok (fun p => Nat.beq p 1729) 80 _ _ _ _ _ _ ?_
  refine And.intro (sc_ok hlen hn (j := 1) (by decide) (nI_add (7 * n) 1)) ?_
  refine And.intro (sc_ok hlen hn (j := 2) (by decide) (nI_add (7 * n) 2)) ?_
  refine sL_law_639 rfl (Nat.ble_eq_true_of_le (by omega)) (Nat.ble_eq_true_of_le (by omega)) hJT.1 (okK_r hJT.1 (okK_i (okK_i okK_n))) (CY_CM (as := [(w.xs (nI (7 * n) + 1).toNatClampNeg), (w.xs (nI (7 * n) + 2).toNatClampNeg)]) hJT hJM (fun m iv h hm => c_X9_erect hm I.b0.1 I.b0.2 I.n18 I.e18 (fun z => I.rs _ (blk_lt hRI z)) I.fl)) (fun v κ2 q hok2 hkp2 => ?_)
  obtain ⟨r, σ2, e1, e2, e3, e4⟩ := q
  subst e3 e4 e1 e2
  refine ⟨h401, ?_⟩
  refine runS_ok (fun p => Nat.beq p 1729) 80 _ _ _ _ _ _ ?_
  refine sL_law_645 rfl (Nat.ble_eq_true_of_le (by omega)) (Nat.ble_eq_true_of_le (by omega)) hJT.1 (okK_r hJT.1 okK_n) (CY_CM (as := []) (JT_PM hJT) PM_JM (fun m iv h hm => c_X9_thrown hm)) (fun v κ3 q hok3 hkp3 => ?_)
  obtain ⟨r, σ3, e1, e2, e3, e4⟩ := q
  subst e3 e4 e1 e2
  refine ⟨h401, ?_⟩
  rw [JM_PM PM_JM]
  refine runS_ok (fun p => Nat.beq p 1729) 80 _ _ _ _ _ _ ?_
  refine And.intro (fun _ => ?_) (fun c => absurd rfl c)
  refine And.intro (fun _ => ?_) (fun c => ?_)
  · exact K _ _ _ _ _ _ (LI_next hL hre) (by omega) (by omega)
  · refine And.intro ⟨(f 41).1.trans hL.2.2.2.1.1, by rw [show gN (PM ivT _ κ1) (tM 41) = gN κ1 (tM 41) from rfl, (f 41).2.1, hL.2.2.2.1.2]; exact vp_in_nI (n := 0) (by decide) (by decide)⟩ ?_
    refine And.intro (fun _ => ?_) (fun c3 => ?_)
    · exact K _ _ _ _ _ _ (LI_next hL hre) (by omega) (by omega)
    · exfalso
      refine c3 ?_
      have hg := hgl c
      refine Eq.trans (congrArg (fun z => lg_cmp z _) (show _ = _ from hg)) ?_
      exact cmp_0 _
set_option maxRecDepth 20000 in
theorem lc_scrap {w : W0} {κ : AH} {σ : MS} {n kc ns : Nat} {x5 x6 : Option Value} (hL : LI κ σ) (hn : 7 * n + 7 ≤ w.lX) (hlen : w.lX ≤ 3584) (hkc : kc ≤ 100 + 20 * n) (hns : ns ≤ 4000 + 200 * n) (K : ∀ (κ' : AH) (σ' : MS) (kc' ns' : Nat) (y5 y6 : Option Value), LI κ' σ' → kc' ≤ 100 + 20 * (n + 1) → ns' ≤ 4000 + 200 * (n + 1) → YS w lQv kc' ns' 1729 (LL n y5 y6) [] κ') : YS w lQv kc ns 675 (LL n x5 x6) [] κ := by
  obtain ⟨nb, nw, np, wb, hRI⟩ := hL.1
  have I := hRI.1
  have h40 := hL.2.2.2.2
  have h4 := hRI.2.1.1.t4
  refine runS_ok (fun p => Nat.beq p 1729) 80 _ _ _ _ _ _ ?_
  refine And.intro (sc_ok hlen hn (j := 1) (by decide) (nI_add (7 * n) 1)) ?_
  refine sL_law_683 rfl (Nat.ble_eq_true_of_le (by omega)) (Nat.ble_eq_true_of_le (by omega)) (okK_r h4 (okK_i (okK_r hL.2.2.2.1.1 okK_n))) (h_scrap hRI hL.2.2.2.1) (fun v κ1 q hok1 hkp1 => ?_)
  obtain ⟨e9, hre, hgl⟩ := q
  subst e9
  have f := FM_of hre
  have hJT := JT_f hL.2.1 f
  have hJM := JM_f hL.2.2.1 f
  have h401 : gT κ1 (tM 40) = 0 := (f 40).1.trans h40
  refine ⟨h401, ?_⟩
  refine runS_ok (fun p => Nat.beq p 1729) 80 _ _ _ _ _ _ ?_
  refine And.intro (sc_ok hlen hn (j := 1) (by decide) (nI_add (7 * n) 1)) ?_
  refine sL_law_695 rfl (Nat.ble_eq_true_of_le (by omega)) (Nat.ble_eq_true_of_le (by omega)) hJT.1 (okK_r hJT.1 (okK_i okK_n)) (CY_CM (as := [(w.xs (nI (7 * n) + 1).toNatClampNeg)]) hJT hJM (fun m iv h hm => c_X9_scrap hm I.ch I.e8)) (fun v κ2 q hok2 hkp2 => ?_)
  obtain ⟨r, σ2, e1, e2, e3, e4⟩ := q
  subst e3 e4 e1 e2
  refine ⟨h401, ?_⟩
  refine runS_ok (fun p => Nat.beq p 1729) 80 _ _ _ _ _ _ ?_
  refine sL_law_701 rfl (Nat.ble_eq_true_of_le (by omega)) (Nat.ble_eq_true_of_le (by omega)) hJT.1 (okK_r hJT.1 okK_n) (CY_CM (as := []) (JT_PM hJT) PM_JM (fun m iv h hm => c_X9_thrown hm)) (fun v κ3 q hok3 hkp3 => ?_)
  obtain ⟨r, σ3, e1, e2, e3, e4⟩ := q
  subst e3 e4 e1 e2
  refine ⟨h401, ?_⟩
  rw [JM_PM PM_JM]
  refine runS_ok (fun p => Nat.beq p 1729) 80 _ _ _ _ _ _ ?_
  refine And.intro (fun _ => ?_) (fun c => absurd rfl c)
  refine And.intro (fun _ => ?_) (fun c => ?_)
  · exact K _ _ _ _ _ _ (LI_next hL hre) (by omega) (by omega)
  · refine And.intro ⟨(f 41).1.trans hL.2.2.2.1.1, by rw [show gN (PM ivT _ κ1) (tM 41) = gN κ1 (tM 41) from rfl, (f 41).2.1, hL.2.2.2.1.2]; exact vp_in_nI (n := 0) (by decide) (by decide)⟩ ?_
    refine And.intro (fun _ => ?_) (fun c3 => ?_)
    · exact K _ _ _ _ _ _ (LI_next hL hre) (by omega) (by omega)
    · exfalso
      refine c3 ?_
      have hg := hgl c
      refine Eq.trans (congrArg (fun z => lg_cmp z _) (show _ = _ from hg)) ?_
      exact cmp_0 _
set_option maxRecDepth 20000 in
theorem lc_test {w : W0} {κ : AH} {σ : MS} {n kc ns : Nat} {x5 x6 : Option Value} (hL : LI κ σ) (hn : 7 * n + 7 ≤ w.lX) (hlen : w.lX ≤ 3584) (hkc : kc ≤ 100 + 20 * n) (hns : ns ≤ 4000 + 200 * n) (K : ∀ (κ' : AH) (σ' : MS) (kc' ns' : Nat) (y5 y6 : Option Value), LI κ' σ' → kc' ≤ 100 + 20 * (n + 1) → ns' ≤ 4000 + 200 * (n + 1) → YS w lQv kc' ns' 1729 (LL n y5 y6) [] κ') : YS w lQv kc ns 731 (LL n x5 x6) [] κ := by
  obtain ⟨nb, nw, np, wb, hRI⟩ := hL.1
  have I := hRI.1
  have h40 := hL.2.2.2.2
  have h4 := hRI.2.1.1.t4
  refine runS_ok (fun p => Nat.beq p 1729) 80 _ _ _ _ _ _ ?_
  refine And.intro (sc_ok hlen hn (j := 1) (by decide) (nI_add (7 * n) 1)) ?_
  refine sL_law_739 rfl (Nat.ble_eq_true_of_le (by omega)) (Nat.ble_eq_true_of_le (by omega)) (okK_r h4 (okK_i (okK_r hL.2.2.2.1.1 okK_n))) (h_test hRI hL.2.2.2.1) (fun v κ1 q hok1 hkp1 => ?_)
  obtain ⟨e9, hre, hgl⟩ := q
  subst e9
  have f := FM_of hre
  have hJT := JT_f hL.2.1 f
  have hJM := JM_f hL.2.2.1 f
  have h401 : gT κ1 (tM 40) = 0 := (f 40).1.trans h40
  refine ⟨h401, ?_⟩
  refine runS_ok (fun p => Nat.beq p 1729) 80 _ _ _ _ _ _ ?_
  refine And.intro (sc_ok hlen hn (j := 1) (by decide) (nI_add (7 * n) 1)) ?_
  refine sL_law_751 rfl (Nat.ble_eq_true_of_le (by omega)) (Nat.ble_eq_true_of_le (by omega)) hJT.1 (okK_r hJT.1 (okK_i okK_n)) (CY_CM (as := [(w.xs (nI (7 * n) + 1).toNatClampNeg)]) hJT hJM (fun m iv h hm => c_X9_test hm I.w0.1 I.w0.2 (fun z => (wb_in hRI z).2))) (fun v κ2 q hok2 hkp2 => ?_)
  obtain ⟨r, σ2, e1, e2, e3, e4⟩ := q
  subst e3 e4 e1 e2
  refine ⟨h401, ?_⟩
  refine runS_ok (fun p => Nat.beq p 1729) 80 _ _ _ _ _ _ ?_
  refine sL_law_757 rfl (Nat.ble_eq_true_of_le (by omega)) (Nat.ble_eq_true_of_le (by omega)) hJT.1 (okK_r hJT.1 okK_n) (CY_CM (as := []) (JT_PM hJT) PM_JM (fun m iv h hm => c_X9_thrown hm)) (fun v κ3 q hok3 hkp3 => ?_)
  obtain ⟨r, σ3, e1, e2, e3, e4⟩ := q
  subst e3 e4 e1 e2
  refine ⟨h401, ?_⟩
  rw [JM_PM PM_JM]
  refine runS_ok (fun p => Nat.beq p 1729) 80 _ _ _ _ _ _ ?_
  refine And.intro (fun _ => ?_) (fun c => absurd rfl c)
  refine And.intro (fun _ => ?_) (fun c => ?_)
  · exact K _ _ _ _ _ _ (LI_next hL hre) (by omega) (by omega)
  · refine And.intro ⟨(f 41).1.trans hL.2.2.2.1.1, by rw [show gN (PM ivT _ κ1) (tM 41) = gN κ1 (tM 41) from rfl, (f 41).2.1, hL.2.2.2.1.2]; exact vp_in_nI (n := 0) (by decide) (by decide)⟩ ?_
    refine And.intro (fun _ => ?_) (fun c3 => ?_)
    · exact K _ _ _ _ _ _ (LI_next hL hre) (by omega) (by omega)
    · exfalso
      refine c3 ?_
      have hg := hgl c
      refine Eq.trans (congrArg (fun z => lg_cmp z _) (show _ = _ from hg)) ?_
      exact cmp_0 _
set_option maxRecDepth 20000 in
theorem lc_repair {w : W0} {κ : AH} {σ : MS} {n kc ns : Nat} {x5 x6 : Option Value} (hL : LI κ σ) (hn : 7 * n + 7 ≤ w.lX) (hlen : w.lX ≤ 3584) (hkc : kc ≤ 100 + 20 * n) (hns : ns ≤ 4000 + 200 * n) (K : ∀ (κ' : AH) (σ' : MS) (kc' ns' : Nat) (y5 y6 : Option Value), LI κ' σ' → kc' ≤ 100 + 20 * (n + 1) → ns' ≤ 4000 + 200 * (n + 1) → YS w lQv kc' ns' 1729 (LL n y5 y6) [] κ') : YS w lQv kc ns 787 (LL n x5 x6) [] κ := by
  obtain ⟨nb, nw, np, wb, hRI⟩ := hL.1
  have I := hRI.1
  have h40 := hL.2.2.2.2
  have h4 := hRI.2.1.1.t4
  refine runS_ok (fun p => Nat.beq p 1729) 80 _ _ _ _ _ _ ?_
  refine And.intro (sc_ok hlen hn (j := 1) (by decide) (nI_add (7 * n) 1)) ?_
  refine And.intro (sc_ok hlen hn (j := 2) (by decide) (nI_add (7 * n) 2)) ?_
  refine sL_law_801 rfl (Nat.ble_eq_true_of_le (by omega)) (Nat.ble_eq_true_of_le (by omega)) (okK_r h4 (okK_i (okK_i (okK_r hL.2.2.2.1.1 okK_n)))) (h_repair hRI hL.2.2.2.1) (fun v κ1 q hok1 hkp1 => ?_)
  obtain ⟨e9, hre, hgl⟩ := q
  subst e9
  have f := FM_of hre
  have hJT := JT_f hL.2.1 f
  have hJM := JM_f hL.2.2.1 f
  have h401 : gT κ1 (tM 40) = 0 := (f 40).1.trans h40
  refine ⟨h401, ?_⟩
  refine runS_ok (fun p => Nat.beq p 1729) 80 _ _ _ _ _ _ ?_
  refine And.intro (sc_ok hlen hn (j := 1) (by decide) (nI_add (7 * n) 1)) ?_
  refine And.intro (sc_ok hlen hn (j := 2) (by decide) (nI_add (7 * n) 2)) ?_
  refine sL_law_819 rfl (Nat.ble_eq_true_of_le (by omega)) (Nat.ble_eq_true_of_le (by omega)) hJT.1 (okK_r hJT.1 (okK_i (okK_i okK_n))) (CY_CM (as := [(w.xs (nI (7 * n) + 1).toNatClampNeg), (w.xs (nI (7 * n) + 2).toNatClampNeg)]) hJT hJM (fun m iv h hm => c_X9_repair hm I.w0.1 I.w0.2 I.ch (fun z => wb_or hRI _ (wb_in hRI z).1) (fun z => I.wf _ (wb_in hRI z).1) (fun z => (wb_in hRI z).2))) (fun v κ2 q hok2 hkp2 => ?_)
  obtain ⟨r, σ2, e1, e2, e3, e4⟩ := q
  subst e3 e4 e1 e2
  refine ⟨h401, ?_⟩
  refine runS_ok (fun p => Nat.beq p 1729) 80 _ _ _ _ _ _ ?_
  refine sL_law_825 rfl (Nat.ble_eq_true_of_le (by omega)) (Nat.ble_eq_true_of_le (by omega)) hJT.1 (okK_r hJT.1 okK_n) (CY_CM (as := []) (JT_PM hJT) PM_JM (fun m iv h hm => c_X9_thrown hm)) (fun v κ3 q hok3 hkp3 => ?_)
  obtain ⟨r, σ3, e1, e2, e3, e4⟩ := q
  subst e3 e4 e1 e2
  refine ⟨h401, ?_⟩
  rw [JM_PM PM_JM]
  refine runS_ok (fun p => Nat.beq p 1729) 80 _ _ _ _ _ _ ?_
  refine And.intro (fun _ => ?_) (fun c => absurd rfl c)
  refine And.intro (fun _ => ?_) (fun c => ?_)
  · exact K _ _ _ _ _ _ (LI_next hL hre) (by omega) (by omega)
  · refine And.intro ⟨(f 41).1.trans hL.2.2.2.1.1, by rw [show gN (PM ivT _ κ1) (tM 41) = gN κ1 (tM 41) from rfl, (f 41).2.1, hL.2.2.2.1.2]; exact vp_in_nI (n := 0) (by decide) (by decide)⟩ ?_
    refine And.intro (fun _ => ?_) (fun c3 => ?_)
    · exact K _ _ _ _ _ _ (LI_next hL hre) (by omega) (by omega)
    · exfalso
      refine c3 ?_
      have hg := hgl c
      refine Eq.trans (congrArg (fun z => lg_cmp z _) (show _ = _ from hg)) ?_
      exact cmp_0 _
set_option maxRecDepth 20000 in
theorem lc_hole {w : W0} {κ : AH} {σ : MS} {n kc ns : Nat} {x5 x6 : Option Value} (hL : LI κ σ) (hn : 7 * n + 7 ≤ w.lX) (hlen : w.lX ≤ 3584) (hkc : kc ≤ 100 + 20 * n) (hns : ns ≤ 4000 + 200 * n) (K : ∀ (κ' : AH) (σ' : MS) (kc' ns' : Nat) (y5 y6 : Option Value), LI κ' σ' → kc' ≤ 100 + 20 * (n + 1) → ns' ≤ 4000 + 200 * (n + 1) → YS w lQv kc' ns' 1729 (LL n y5 y6) [] κ') : YS w lQv kc ns 855 (LL n x5 x6) [] κ := by
  obtain ⟨nb, nw, np, wb, hRI⟩ := hL.1
  have I := hRI.1
  have h40 := hL.2.2.2.2
  have h4 := hRI.2.1.1.t4
  refine runS_ok (fun p => Nat.beq p 1729) 80 _ _ _ _ _ _ ?_
  refine And.intro (sc_ok hlen hn (j := 1) (by decide) (nI_add (7 * n) 1)) ?_
  refine And.intro (sc_ok hlen hn (j := 2) (by decide) (nI_add (7 * n) 2)) ?_
  refine And.intro (fun hu => ?_) (fun hu => ?_)
  · skip
    refine sL_law_877 rfl (Nat.ble_eq_true_of_le (by omega)) (Nat.ble_eq_true_of_le (by omega)) (okK_r h4 (okK_i (okK_i (okK_r hL.2.2.2.1.1 okK_n)))) (h_hole hRI hL.2.2.2.1) (fun v κ1 q hok1 hkp1 => ?_)
    obtain ⟨e9, hre, hgl⟩ := q
    subst e9
    have f := FM_of hre
    have hJT := JT_f hL.2.1 f
    have hJM := JM_f hL.2.2.1 f
    have h401 : gT κ1 (tM 40) = 0 := (f 40).1.trans h40
    refine ⟨h401, ?_⟩
    refine runS_ok (fun p => Nat.beq p 1729) 80 _ _ _ _ _ _ ?_
    refine And.intro (sc_ok hlen hn (j := 1) (by decide) (nI_add (7 * n) 1)) ?_
    refine And.intro (sc_ok hlen hn (j := 2) (by decide) (nI_add (7 * n) 2)) ?_
    refine And.intro (fun c => ?_) (fun c => ?_)
    · skip
      refine sL_law_903 rfl (Nat.ble_eq_true_of_le (by omega)) (Nat.ble_eq_true_of_le (by omega)) hJT.1 (okK_r hJT.1 (okK_i (okK_i okK_n))) (CY_CM (as := [(w.xs (nI (7 * n) + 1).toNatClampNeg), 0]) hJT hJM (fun m iv h hm => c_X9_hole hm)) (fun v κ2 q hok2 hkp2 => ?_)
      obtain ⟨r, σ2, e1, e2, e3, e4⟩ := q
      subst e3 e4 e1 e2
      refine ⟨h401, ?_⟩
      refine runS_ok (fun p => Nat.beq p 1729) 80 _ _ _ _ _ _ ?_
      refine sL_law_909 rfl (Nat.ble_eq_true_of_le (by omega)) (Nat.ble_eq_true_of_le (by omega)) hJT.1 (okK_r hJT.1 okK_n) (CY_CM (as := []) (JT_PM hJT) PM_JM (fun m iv h hm => c_X9_thrown hm)) (fun v κ3 q hok3 hkp3 => ?_)
      obtain ⟨r, σ3, e1, e2, e3, e4⟩ := q
      subst e3 e4 e1 e2
      refine ⟨h401, ?_⟩
      rw [JM_PM PM_JM]
      refine runS_ok (fun p => Nat.beq p 1729) 80 _ _ _ _ _ _ ?_
      refine And.intro (fun _ => ?_) (fun c => absurd rfl c)
      refine And.intro (fun _ => ?_) (fun c => ?_)
      · exact K _ _ _ _ _ _ (LI_next hL hre) (by omega) (by omega)
      · refine And.intro ⟨(f 41).1.trans hL.2.2.2.1.1, by rw [show gN (PM ivT _ κ1) (tM 41) = gN κ1 (tM 41) from rfl, (f 41).2.1, hL.2.2.2.1.2]; exact vp_in_nI (n := 0) (by decide) (by decide)⟩ ?_
        refine And.intro (fun _ => ?_) (fun c3 => ?_)
        · exact K _ _ _ _ _ _ (LI_next hL hre) (by omega) (by omega)
        · exfalso
          refine c3 ?_
          have hg := hgl c
          refine Eq.trans (congrArg (fun z => lg_cmp z _) (show _ = _ from hg)) ?_
          exact cmp_0 _
    · skip
      exact absurd hu c
  · skip
    refine sL_law_877 rfl (Nat.ble_eq_true_of_le (by omega)) (Nat.ble_eq_true_of_le (by omega)) (okK_r h4 (okK_i (okK_i (okK_r hL.2.2.2.1.1 okK_n)))) (h_hole hRI hL.2.2.2.1) (fun v κ1 q hok1 hkp1 => ?_)
    obtain ⟨e9, hre, hgl⟩ := q
    subst e9
    have f := FM_of hre
    have hJT := JT_f hL.2.1 f
    have hJM := JM_f hL.2.2.1 f
    have h401 : gT κ1 (tM 40) = 0 := (f 40).1.trans h40
    refine ⟨h401, ?_⟩
    refine runS_ok (fun p => Nat.beq p 1729) 80 _ _ _ _ _ _ ?_
    refine And.intro (sc_ok hlen hn (j := 1) (by decide) (nI_add (7 * n) 1)) ?_
    refine And.intro (sc_ok hlen hn (j := 2) (by decide) (nI_add (7 * n) 2)) ?_
    refine And.intro (fun c => ?_) (fun c => ?_)
    · skip
      exact absurd c hu
    · skip
      refine sL_law_903 rfl (Nat.ble_eq_true_of_le (by omega)) (Nat.ble_eq_true_of_le (by omega)) hJT.1 (okK_r hJT.1 (okK_i (okK_i okK_n))) (CY_CM (as := [(w.xs (nI (7 * n) + 1).toNatClampNeg), 1]) hJT hJM (fun m iv h hm => c_X9_hole hm)) (fun v κ2 q hok2 hkp2 => ?_)
      obtain ⟨r, σ2, e1, e2, e3, e4⟩ := q
      subst e3 e4 e1 e2
      refine ⟨h401, ?_⟩
      refine runS_ok (fun p => Nat.beq p 1729) 80 _ _ _ _ _ _ ?_
      refine sL_law_909 rfl (Nat.ble_eq_true_of_le (by omega)) (Nat.ble_eq_true_of_le (by omega)) hJT.1 (okK_r hJT.1 okK_n) (CY_CM (as := []) (JT_PM hJT) PM_JM (fun m iv h hm => c_X9_thrown hm)) (fun v κ3 q hok3 hkp3 => ?_)
      obtain ⟨r, σ3, e1, e2, e3, e4⟩ := q
      subst e3 e4 e1 e2
      refine ⟨h401, ?_⟩
      rw [JM_PM PM_JM]
      refine runS_ok (fun p => Nat.beq p 1729) 80 _ _ _ _ _ _ ?_
      refine And.intro (fun _ => ?_) (fun c => absurd rfl c)
      refine And.intro (fun _ => ?_) (fun c => ?_)
      · exact K _ _ _ _ _ _ (LI_next hL hre) (by omega) (by omega)
      · refine And.intro ⟨(f 41).1.trans hL.2.2.2.1.1, by rw [show gN (PM ivT _ κ1) (tM 41) = gN κ1 (tM 41) from rfl, (f 41).2.1, hL.2.2.2.1.2]; exact vp_in_nI (n := 0) (by decide) (by decide)⟩ ?_
        refine And.intro (fun _ => ?_) (fun c3 => ?_)
        · exact K _ _ _ _ _ _ (LI_next hL hre) (by omega) (by omega)
        · exfalso
          refine c3 ?_
          have hg := hgl c
          refine Eq.trans (congrArg (fun z => lg_cmp z _) (show _ = _ from hg)) ?_
          exact cmp_0 _
set_option maxRecDepth 20000 in
theorem lc_paint {w : W0} {κ : AH} {σ : MS} {n kc ns : Nat} {x5 x6 : Option Value} (hL : LI κ σ) (hn : 7 * n + 7 ≤ w.lX) (hlen : w.lX ≤ 3584) (hkc : kc ≤ 100 + 20 * n) (hns : ns ≤ 4000 + 200 * n) (K : ∀ (κ' : AH) (σ' : MS) (kc' ns' : Nat) (y5 y6 : Option Value), LI κ' σ' → kc' ≤ 100 + 20 * (n + 1) → ns' ≤ 4000 + 200 * (n + 1) → YS w lQv kc' ns' 1729 (LL n y5 y6) [] κ') : YS w lQv kc ns 939 (LL n x5 x6) [] κ := by
  obtain ⟨nb, nw, np, wb, hRI⟩ := hL.1
  have I := hRI.1
  have h40 := hL.2.2.2.2
  have h4 := hRI.2.1.1.t4
  refine runS_ok (fun p => Nat.beq p 1729) 80 _ _ _ _ _ _ ?_
  refine And.intro (sc_ok hlen hn (j := 1) (by decide) (nI_add (7 * n) 1)) ?_
  refine sL_law_947 rfl (Nat.ble_eq_true_of_le (by omega)) (Nat.ble_eq_true_of_le (by omega)) (okK_r h4 (okK_i (okK_r hL.2.2.2.1.1 okK_n))) (h_paint hRI hL.2.2.2.1) (fun v κ1 q hok1 hkp1 => ?_)
  obtain ⟨e9, hre, hgl⟩ := q
  subst e9
  have f := FM_of hre
  have hJT := JT_f hL.2.1 f
  have hJM := JM_f hL.2.2.1 f
  have h401 : gT κ1 (tM 40) = 0 := (f 40).1.trans h40
  refine ⟨h401, ?_⟩
  refine runS_ok (fun p => Nat.beq p 1729) 80 _ _ _ _ _ _ ?_
  refine And.intro (sc_ok hlen hn (j := 1) (by decide) (nI_add (7 * n) 1)) ?_
  refine sL_law_959 rfl (Nat.ble_eq_true_of_le (by omega)) (Nat.ble_eq_true_of_le (by omega)) hJT.1 (okK_r hJT.1 (okK_i okK_n)) (CY_CM (as := [(w.xs (nI (7 * n) + 1).toNatClampNeg)]) hJT hJM (fun m iv h hm => c_X9_paint hm)) (fun v κ2 q hok2 hkp2 => ?_)
  obtain ⟨r, σ2, e1, e2, e3, e4⟩ := q
  subst e3 e4 e1 e2
  refine ⟨h401, ?_⟩
  refine runS_ok (fun p => Nat.beq p 1729) 80 _ _ _ _ _ _ ?_
  refine sL_law_965 rfl (Nat.ble_eq_true_of_le (by omega)) (Nat.ble_eq_true_of_le (by omega)) hJT.1 (okK_r hJT.1 okK_n) (CY_CM (as := []) (JT_PM hJT) PM_JM (fun m iv h hm => c_X9_thrown hm)) (fun v κ3 q hok3 hkp3 => ?_)
  obtain ⟨r, σ3, e1, e2, e3, e4⟩ := q
  subst e3 e4 e1 e2
  refine ⟨h401, ?_⟩
  rw [JM_PM PM_JM]
  refine runS_ok (fun p => Nat.beq p 1729) 80 _ _ _ _ _ _ ?_
  refine And.intro (fun _ => ?_) (fun c => absurd rfl c)
  refine And.intro (fun _ => ?_) (fun c => ?_)
  · exact K _ _ _ _ _ _ (LI_next hL hre) (by omega) (by omega)
  · refine And.intro ⟨(f 41).1.trans hL.2.2.2.1.1, by rw [show gN (PM ivT _ κ1) (tM 41) = gN κ1 (tM 41) from rfl, (f 41).2.1, hL.2.2.2.1.2]; exact vp_in_nI (n := 0) (by decide) (by decide)⟩ ?_
    refine And.intro (fun _ => ?_) (fun c3 => ?_)
    · exact K _ _ _ _ _ _ (LI_next hL hre) (by omega) (by omega)
    · exfalso
      refine c3 ?_
      have hg := hgl c
      refine Eq.trans (congrArg (fun z => lg_cmp z _) (show _ = _ from hg)) ?_
      exact cmp_0 _
set_option maxRecDepth 20000 in
theorem lc_fit {w : W0} {κ : AH} {σ : MS} {n kc ns : Nat} {x5 x6 : Option Value} (hL : LI κ σ) (hn : 7 * n + 7 ≤ w.lX) (hlen : w.lX ≤ 3584) (hkc : kc ≤ 100 + 20 * n) (hns : ns ≤ 4000 + 200 * n) (K : ∀ (κ' : AH) (σ' : MS) (kc' ns' : Nat) (y5 y6 : Option Value), LI κ' σ' → kc' ≤ 100 + 20 * (n + 1) → ns' ≤ 4000 + 200 * (n + 1) → YS w lQv kc' ns' 1729 (LL n y5 y6) [] κ') : YS w lQv kc ns 995 (LL n x5 x6) [] κ := by
  obtain ⟨nb, nw, np, wb, hRI⟩ := hL.1
  have I := hRI.1
  have h40 := hL.2.2.2.2
  have h4 := hRI.2.1.1.t4
  refine runS_ok (fun p => Nat.beq p 1729) 80 _ _ _ _ _ _ ?_
  refine And.intro (sc_ok hlen hn (j := 1) (by decide) (nI_add (7 * n) 1)) ?_
  refine And.intro (sc_ok hlen hn (j := 2) (by decide) (nI_add (7 * n) 2)) ?_
  refine sL_law_1009 rfl (Nat.ble_eq_true_of_le (by omega)) (Nat.ble_eq_true_of_le (by omega)) (okK_r h4 (okK_i (okK_i (okK_r hL.2.2.2.1.1 okK_n)))) (h_fit hRI hL.2.2.2.1) (fun v κ1 q hok1 hkp1 => ?_)
  obtain ⟨e9, hre, hgl⟩ := q
  subst e9
  have f := FM_of hre
  have hJT := JT_f hL.2.1 f
  have hJM := JM_f hL.2.2.1 f
  have h401 : gT κ1 (tM 40) = 0 := (f 40).1.trans h40
  refine ⟨h401, ?_⟩
  refine runS_ok (fun p => Nat.beq p 1729) 80 _ _ _ _ _ _ ?_
  refine And.intro (sc_ok hlen hn (j := 1) (by decide) (nI_add (7 * n) 1)) ?_
  refine And.intro (sc_ok hlen hn (j := 2) (by decide) (nI_add (7 * n) 2)) ?_
  refine sL_law_1027 rfl (Nat.ble_eq_true_of_le (by omega)) (Nat.ble_eq_true_of_le (by omega)) hJT.1 (okK_r hJT.1 (okK_i (okK_i okK_n))) (CY_CM (as := [(w.xs (nI (7 * n) + 1).toNatClampNeg), (w.xs (nI (7 * n) + 2).toNatClampNeg)]) hJT hJM (fun m iv h hm => c_X9_fit hm)) (fun v κ2 q hok2 hkp2 => ?_)
  obtain ⟨r, σ2, e1, e2, e3, e4⟩ := q
  subst e3 e4 e1 e2
  refine ⟨h401, ?_⟩
  refine runS_ok (fun p => Nat.beq p 1729) 80 _ _ _ _ _ _ ?_
  refine sL_law_1033 rfl (Nat.ble_eq_true_of_le (by omega)) (Nat.ble_eq_true_of_le (by omega)) hJT.1 (okK_r hJT.1 okK_n) (CY_CM (as := []) (JT_PM hJT) PM_JM (fun m iv h hm => c_X9_thrown hm)) (fun v κ3 q hok3 hkp3 => ?_)
  obtain ⟨r, σ3, e1, e2, e3, e4⟩ := q
  subst e3 e4 e1 e2
  refine ⟨h401, ?_⟩
  rw [JM_PM PM_JM]
  refine runS_ok (fun p => Nat.beq p 1729) 80 _ _ _ _ _ _ ?_
  refine And.intro (fun _ => ?_) (fun c => absurd rfl c)
  refine And.intro (fun _ => ?_) (fun c => ?_)
  · exact K _ _ _ _ _ _ (LI_next hL hre) (by omega) (by omega)
  · refine And.intro ⟨(f 41).1.trans hL.2.2.2.1.1, by rw [show gN (PM ivT _ κ1) (tM 41) = gN κ1 (tM 41) from rfl, (f 41).2.1, hL.2.2.2.1.2]; exact vp_in_nI (n := 0) (by decide) (by decide)⟩ ?_
    refine And.intro (fun _ => ?_) (fun c3 => ?_)
    · exact K _ _ _ _ _ _ (LI_next hL hre) (by omega) (by omega)
    · exfalso
      refine c3 ?_
      have hg := hgl c
      refine Eq.trans (congrArg (fun z => lg_cmp z _) (show _ = _ from hg)) ?_
      exact cmp_0 _
set_option maxRecDepth 20000 in
theorem lc_pipe {w : W0} {κ : AH} {σ : MS} {n kc ns : Nat} {x5 x6 : Option Value} (hL : LI κ σ) (hn : 7 * n + 7 ≤ w.lX) (hlen : w.lX ≤ 3584) (hkc : kc ≤ 100 + 20 * n) (hns : ns ≤ 4000 + 200 * n) (K : ∀ (κ' : AH) (σ' : MS) (kc' ns' : Nat) (y5 y6 : Option Value), LI κ' σ' → kc' ≤ 100 + 20 * (n + 1) → ns' ≤ 4000 + 200 * (n + 1) → YS w lQv kc' ns' 1729 (LL n y5 y6) [] κ') : YS w lQv kc ns 1063 (LL n x5 x6) [] κ := by
  obtain ⟨nb, nw, np, wb, hRI⟩ := hL.1
  have I := hRI.1
  have h40 := hL.2.2.2.2
  have h4 := hRI.2.1.1.t4
  refine runS_ok (fun p => Nat.beq p 1729) 80 _ _ _ _ _ _ ?_
  refine And.intro (sc_ok hlen hn (j := 1) (by decide) (nI_add (7 * n) 1)) ?_
  refine And.intro (sc_ok hlen hn (j := 2) (by decide) (nI_add (7 * n) 2)) ?_
  refine sL_law_1077 rfl (Nat.ble_eq_true_of_le (by omega)) (Nat.ble_eq_true_of_le (by omega)) (okK_r h4 (okK_i (okK_i (okK_r hL.2.2.2.1.1 okK_n)))) (h_pipe hRI hL.2.2.2.1) (fun v κ1 q hok1 hkp1 => ?_)
  obtain ⟨e9, hre, hgl⟩ := q
  subst e9
  have f := FM_of hre
  have hJT := JT_f hL.2.1 f
  have hJM := JM_f hL.2.2.1 f
  have h401 : gT κ1 (tM 40) = 0 := (f 40).1.trans h40
  refine ⟨h401, ?_⟩
  refine runS_ok (fun p => Nat.beq p 1729) 80 _ _ _ _ _ _ ?_
  refine And.intro (sc_ok hlen hn (j := 1) (by decide) (nI_add (7 * n) 1)) ?_
  refine And.intro (sc_ok hlen hn (j := 2) (by decide) (nI_add (7 * n) 2)) ?_
  refine sL_law_1095 rfl (Nat.ble_eq_true_of_le (by omega)) (Nat.ble_eq_true_of_le (by omega)) hJT.1 (okK_r hJT.1 (okK_i (okK_i okK_n))) (CY_CM (as := [(w.xs (nI (7 * n) + 1).toNatClampNeg), (w.xs (nI (7 * n) + 2).toNatClampNeg)]) hJT hJM (fun m iv h hm => c_X9_pipe hm I.hO I.n30 I.e30)) (fun v κ2 q hok2 hkp2 => ?_)
  obtain ⟨r, σ2, e1, e2, e3, e4⟩ := q
  subst e3 e4 e1 e2
  refine ⟨h401, ?_⟩
  refine runS_ok (fun p => Nat.beq p 1729) 80 _ _ _ _ _ _ ?_
  refine sL_law_1101 rfl (Nat.ble_eq_true_of_le (by omega)) (Nat.ble_eq_true_of_le (by omega)) hJT.1 (okK_r hJT.1 okK_n) (CY_CM (as := []) (JT_PM hJT) PM_JM (fun m iv h hm => c_X9_thrown hm)) (fun v κ3 q hok3 hkp3 => ?_)
  obtain ⟨r, σ3, e1, e2, e3, e4⟩ := q
  subst e3 e4 e1 e2
  refine ⟨h401, ?_⟩
  rw [JM_PM PM_JM]
  refine runS_ok (fun p => Nat.beq p 1729) 80 _ _ _ _ _ _ ?_
  refine And.intro (fun _ => ?_) (fun c => absurd rfl c)
  refine And.intro (fun _ => ?_) (fun c => ?_)
  · exact K _ _ _ _ _ _ (LI_next hL hre) (by omega) (by omega)
  · refine And.intro ⟨(f 41).1.trans hL.2.2.2.1.1, by rw [show gN (PM ivT _ κ1) (tM 41) = gN κ1 (tM 41) from rfl, (f 41).2.1, hL.2.2.2.1.2]; exact vp_in_nI (n := 0) (by decide) (by decide)⟩ ?_
    refine And.intro (fun _ => ?_) (fun c3 => ?_)
    · exact K _ _ _ _ _ _ (LI_next hL hre) (by omega) (by omega)
    · exfalso
      refine c3 ?_
      have hg := hgl c
      refine Eq.trans (congrArg (fun z => lg_cmp z _) (show _ = _ from hg)) ?_
      exact cmp_0 _
set_option maxRecDepth 20000 in
theorem lc_launch {w : W0} {κ : AH} {σ : MS} {n kc ns : Nat} {x5 x6 : Option Value} (hL : LI κ σ) (hn : 7 * n + 7 ≤ w.lX) (hlen : w.lX ≤ 3584) (hkc : kc ≤ 100 + 20 * n) (hns : ns ≤ 4000 + 200 * n) (K : ∀ (κ' : AH) (σ' : MS) (kc' ns' : Nat) (y5 y6 : Option Value), LI κ' σ' → kc' ≤ 100 + 20 * (n + 1) → ns' ≤ 4000 + 200 * (n + 1) → YS w lQv kc' ns' 1729 (LL n y5 y6) [] κ') : YS w lQv kc ns 1131 (LL n x5 x6) [] κ := by
  obtain ⟨nb, nw, np, wb, hRI⟩ := hL.1
  have I := hRI.1
  have h40 := hL.2.2.2.2
  have h4 := hRI.2.1.1.t4
  refine runS_ok (fun p => Nat.beq p 1729) 80 _ _ _ _ _ _ ?_
  refine And.intro (sc_ok hlen hn (j := 1) (by decide) (nI_add (7 * n) 1)) ?_
  refine sL_law_1139 rfl (Nat.ble_eq_true_of_le (by omega)) (Nat.ble_eq_true_of_le (by omega)) (okK_r h4 (okK_i (okK_r hL.2.2.2.1.1 okK_n))) (h_launch hRI hL.2.2.2.1) (fun v κ1 q hok1 hkp1 => ?_)
  obtain ⟨e9, hre, hgl⟩ := q
  subst e9
  have f := FM_of hre
  have hJT := JT_f hL.2.1 f
  have hJM := JM_f hL.2.2.1 f
  have h401 : gT κ1 (tM 40) = 0 := (f 40).1.trans h40
  refine ⟨h401, ?_⟩
  refine runS_ok (fun p => Nat.beq p 1729) 80 _ _ _ _ _ _ ?_
  refine And.intro (sc_ok hlen hn (j := 1) (by decide) (nI_add (7 * n) 1)) ?_
  refine sL_law_1151 rfl (Nat.ble_eq_true_of_le (by omega)) (Nat.ble_eq_true_of_le (by omega)) hJT.1 (okK_r hJT.1 (okK_i okK_n)) (CY_CM (as := [(w.xs (nI (7 * n) + 1).toNatClampNeg)]) hJT hJM (fun m iv h hm => c_X9_launch hm I.ch I.e8 I.n18 I.e18 (wb_or hRI))) (fun v κ2 q hok2 hkp2 => ?_)
  obtain ⟨r, σ2, e1, e2, e3, e4⟩ := q
  subst e3 e4 e1 e2
  refine ⟨h401, ?_⟩
  refine runS_ok (fun p => Nat.beq p 1729) 80 _ _ _ _ _ _ ?_
  refine sL_law_1157 rfl (Nat.ble_eq_true_of_le (by omega)) (Nat.ble_eq_true_of_le (by omega)) hJT.1 (okK_r hJT.1 okK_n) (CY_CM (as := []) (JT_PM hJT) PM_JM (fun m iv h hm => c_X9_thrown hm)) (fun v κ3 q hok3 hkp3 => ?_)
  obtain ⟨r, σ3, e1, e2, e3, e4⟩ := q
  subst e3 e4 e1 e2
  refine ⟨h401, ?_⟩
  rw [JM_PM PM_JM]
  refine runS_ok (fun p => Nat.beq p 1729) 80 _ _ _ _ _ _ ?_
  refine And.intro (fun _ => ?_) (fun c => absurd rfl c)
  refine And.intro (fun _ => ?_) (fun c => ?_)
  · exact K _ _ _ _ _ _ (LI_next hL hre) (by omega) (by omega)
  · refine And.intro ⟨(f 41).1.trans hL.2.2.2.1.1, by rw [show gN (PM ivT _ κ1) (tM 41) = gN κ1 (tM 41) from rfl, (f 41).2.1, hL.2.2.2.1.2]; exact vp_in_nI (n := 0) (by decide) (by decide)⟩ ?_
    refine And.intro (fun _ => ?_) (fun c3 => ?_)
    · exact K _ _ _ _ _ _ (LI_next hL hre) (by omega) (by omega)
    · exfalso
      refine c3 ?_
      have hg := hgl c
      refine Eq.trans (congrArg (fun z => lg_cmp z _) (show _ = _ from hg)) ?_
      exact cmp_0 _
set_option maxRecDepth 20000 in
theorem lc_blocks {w : W0} {κ : AH} {σ : MS} {n kc ns : Nat} {x5 x6 : Option Value} (hL : LI κ σ) (hn : 7 * n + 7 ≤ w.lX) (hlen : w.lX ≤ 3584) (hkc : kc ≤ 100 + 20 * n) (hns : ns ≤ 4000 + 200 * n) (K : ∀ (κ' : AH) (σ' : MS) (kc' ns' : Nat) (y5 y6 : Option Value), LI κ' σ' → kc' ≤ 100 + 20 * (n + 1) → ns' ≤ 4000 + 200 * (n + 1) → YS w lQv kc' ns' 1729 (LL n y5 y6) [] κ') : YS w lQv kc ns 1187 (LL n x5 x6) [] κ := by
  obtain ⟨nb, nw, np, wb, hRI⟩ := hL.1
  have I := hRI.1
  have h40 := hL.2.2.2.2
  have h4 := hRI.2.1.1.t4
  refine runS_ok (fun p => Nat.beq p 1729) 80 _ _ _ _ _ _ ?_
  refine sL_law_1188 rfl (Nat.ble_eq_true_of_le (by omega)) (Nat.ble_eq_true_of_le (by omega)) h4 (okK_r h4 okK_n) (k_blocks (κ0 := κ) hRI) (fun v κ1 q hok1 hkp1 => ?_)
  obtain ⟨h34, e9, hre⟩ := q
  subst e9
  have f := FM_of hre
  have hJT := JT_f hL.2.1 f
  have hJM := JM_f hL.2.2.1 f
  have h401 : gT κ1 (tM 40) = 0 := (f 40).1.trans h40
  refine ⟨h401, ?_⟩
  refine runS_ok (fun p => Nat.beq p 1729) 80 _ _ _ _ _ _ ?_
  refine sL_law_1192 rfl (Nat.ble_eq_true_of_le (by omega)) (Nat.ble_eq_true_of_le (by omega)) hJT.1 (okK_r hJT.1 okK_n) (CY_CM (as := []) hJT hJM (fun m iv h hm => c_X9_blocks hm)) (fun v κ2 q hok2 hkp2 => ?_)
  obtain ⟨r, σ2, e1, e2, e3, e4⟩ := q
  subst e3 e4 e1 e2
  refine ⟨h401, ?_⟩
  refine runS_ok (fun p => Nat.beq p 1729) 80 _ _ _ _ _ _ ?_
  refine And.intro (fun _ => ?_) (fun c => absurd rfl c)
  exact K _ _ _ _ _ _ (LI_next hL hre) (by omega) (by omega)
set_option maxRecDepth 20000 in
theorem lc_welds {w : W0} {κ : AH} {σ : MS} {n kc ns : Nat} {x5 x6 : Option Value} (hL : LI κ σ) (hn : 7 * n + 7 ≤ w.lX) (hlen : w.lX ≤ 3584) (hkc : kc ≤ 100 + 20 * n) (hns : ns ≤ 4000 + 200 * n) (K : ∀ (κ' : AH) (σ' : MS) (kc' ns' : Nat) (y5 y6 : Option Value), LI κ' σ' → kc' ≤ 100 + 20 * (n + 1) → ns' ≤ 4000 + 200 * (n + 1) → YS w lQv kc' ns' 1729 (LL n y5 y6) [] κ') : YS w lQv kc ns 1200 (LL n x5 x6) [] κ := by
  obtain ⟨nb, nw, np, wb, hRI⟩ := hL.1
  have I := hRI.1
  have h40 := hL.2.2.2.2
  have h4 := hRI.2.1.1.t4
  refine runS_ok (fun p => Nat.beq p 1729) 80 _ _ _ _ _ _ ?_
  refine sL_law_1201 rfl (Nat.ble_eq_true_of_le (by omega)) (Nat.ble_eq_true_of_le (by omega)) h4 (okK_r h4 okK_n) (k_welds (κ0 := κ) hRI) (fun v κ1 q hok1 hkp1 => ?_)
  obtain ⟨h34, e9, hre⟩ := q
  subst e9
  have f := FM_of hre
  have hJT := JT_f hL.2.1 f
  have hJM := JM_f hL.2.2.1 f
  have h401 : gT κ1 (tM 40) = 0 := (f 40).1.trans h40
  refine ⟨h401, ?_⟩
  refine runS_ok (fun p => Nat.beq p 1729) 80 _ _ _ _ _ _ ?_
  refine sL_law_1205 rfl (Nat.ble_eq_true_of_le (by omega)) (Nat.ble_eq_true_of_le (by omega)) hJT.1 (okK_r hJT.1 okK_n) (CY_CM (as := []) hJT hJM (fun m iv h hm => c_X9_welds hm)) (fun v κ2 q hok2 hkp2 => ?_)
  obtain ⟨r, σ2, e1, e2, e3, e4⟩ := q
  subst e3 e4 e1 e2
  refine ⟨h401, ?_⟩
  refine runS_ok (fun p => Nat.beq p 1729) 80 _ _ _ _ _ _ ?_
  refine And.intro (fun _ => ?_) (fun c => absurd rfl c)
  exact K _ _ _ _ _ _ (LI_next hL hre) (by omega) (by omega)
set_option maxRecDepth 20000 in
theorem lc_isAfloat {w : W0} {κ : AH} {σ : MS} {n kc ns : Nat} {x5 x6 : Option Value} (hL : LI κ σ) (hn : 7 * n + 7 ≤ w.lX) (hlen : w.lX ≤ 3584) (hkc : kc ≤ 100 + 20 * n) (hns : ns ≤ 4000 + 200 * n) (K : ∀ (κ' : AH) (σ' : MS) (kc' ns' : Nat) (y5 y6 : Option Value), LI κ' σ' → kc' ≤ 100 + 20 * (n + 1) → ns' ≤ 4000 + 200 * (n + 1) → YS w lQv kc' ns' 1729 (LL n y5 y6) [] κ') : YS w lQv kc ns 1213 (LL n x5 x6) [] κ := by
  obtain ⟨nb, nw, np, wb, hRI⟩ := hL.1
  have I := hRI.1
  have h40 := hL.2.2.2.2
  have h4 := hRI.2.1.1.t4
  refine runS_ok (fun p => Nat.beq p 1729) 80 _ _ _ _ _ _ ?_
  refine sL_law_1214 rfl (Nat.ble_eq_true_of_le (by omega)) (Nat.ble_eq_true_of_le (by omega)) h4 (okK_r h4 okK_n) (k_isAfloat (κ0 := κ) hRI) (fun v κ1 q hok1 hkp1 => ?_)
  obtain ⟨h34, e9, hre⟩ := q
  subst e9
  have f := FM_of hre
  have hJT := JT_f hL.2.1 f
  have hJM := JM_f hL.2.2.1 f
  have h401 : gT κ1 (tM 40) = 0 := (f 40).1.trans h40
  refine ⟨h401, ?_⟩
  refine runS_ok (fun p => Nat.beq p 1729) 80 _ _ _ _ _ _ ?_
  refine sL_law_1218 rfl (Nat.ble_eq_true_of_le (by omega)) (Nat.ble_eq_true_of_le (by omega)) hJT.1 (okK_r hJT.1 okK_n) (CY_CM (as := []) hJT hJM (fun m iv h hm => c_X9_isAfloat hm I.l6)) (fun v κ2 q hok2 hkp2 => ?_)
  obtain ⟨r, σ2, e1, e2, e3, e4⟩ := q
  subst e3 e4 e1 e2
  refine ⟨h401, ?_⟩
  refine runS_ok (fun p => Nat.beq p 1729) 80 _ _ _ _ _ _ ?_
  refine And.intro (fun _ => ?_) (fun c => absurd rfl c)
  exact K _ _ _ _ _ _ (LI_next hL hre) (by omega) (by omega)
set_option maxRecDepth 20000 in
theorem lc_whyNot {w : W0} {κ : AH} {σ : MS} {n kc ns : Nat} {x5 x6 : Option Value} (hL : LI κ σ) (hn : 7 * n + 7 ≤ w.lX) (hlen : w.lX ≤ 3584) (hkc : kc ≤ 100 + 20 * n) (hns : ns ≤ 4000 + 200 * n) (K : ∀ (κ' : AH) (σ' : MS) (kc' ns' : Nat) (y5 y6 : Option Value), LI κ' σ' → kc' ≤ 100 + 20 * (n + 1) → ns' ≤ 4000 + 200 * (n + 1) → YS w lQv kc' ns' 1729 (LL n y5 y6) [] κ') : YS w lQv kc ns 1226 (LL n x5 x6) [] κ := by
  obtain ⟨nb, nw, np, wb, hRI⟩ := hL.1
  have I := hRI.1
  have h40 := hL.2.2.2.2
  have h4 := hRI.2.1.1.t4
  refine runS_ok (fun p => Nat.beq p 1729) 80 _ _ _ _ _ _ ?_
  refine And.intro (sc_ok hlen hn (j := 1) (by decide) (nI_add (7 * n) 1)) ?_
  refine sL_law_1234 rfl (Nat.ble_eq_true_of_le (by omega)) (Nat.ble_eq_true_of_le (by omega)) (okK_r h4 (okK_i (okK_r hL.2.2.2.1.1 okK_n))) (h_whyNot hRI hL.2.2.2.1) (fun v κ1 q hok1 hkp1 => ?_)
  obtain ⟨e9, hre, hgl⟩ := q
  subst e9
  have f := FM_of hre
  have hJT := JT_f hL.2.1 f
  have hJM := JM_f hL.2.2.1 f
  have h401 : gT κ1 (tM 40) = 0 := (f 40).1.trans h40
  refine ⟨h401, ?_⟩
  refine runS_ok (fun p => Nat.beq p 1729) 80 _ _ _ _ _ _ ?_
  refine And.intro (sc_ok hlen hn (j := 1) (by decide) (nI_add (7 * n) 1)) ?_
  refine sL_law_1246 rfl (Nat.ble_eq_true_of_le (by omega)) (Nat.ble_eq_true_of_le (by omega)) hJT.1 (okK_r hJT.1 (okK_i okK_n)) (CY_CM (as := [(w.xs (nI (7 * n) + 1).toNatClampNeg)]) hJT hJM (fun m iv h hm => c_X9_whyNot hm I.b0.1 I.b0.2 (fun z => I.rs _ (blk_lt hRI z)) I.fl)) (fun v κ2 q hok2 hkp2 => ?_)
  obtain ⟨r, σ2, e1, e2, e3, e4⟩ := q
  subst e3 e4 e1 e2
  refine ⟨h401, ?_⟩
  refine runS_ok (fun p => Nat.beq p 1729) 80 _ _ _ _ _ _ ?_
  refine sL_law_1252 rfl (Nat.ble_eq_true_of_le (by omega)) (Nat.ble_eq_true_of_le (by omega)) hJT.1 (okK_r hJT.1 okK_n) (CY_CM (as := []) (JT_PM hJT) PM_JM (fun m iv h hm => c_X9_thrown hm)) (fun v κ3 q hok3 hkp3 => ?_)
  obtain ⟨r, σ3, e1, e2, e3, e4⟩ := q
  subst e3 e4 e1 e2
  refine ⟨h401, ?_⟩
  rw [JM_PM PM_JM]
  refine runS_ok (fun p => Nat.beq p 1729) 80 _ _ _ _ _ _ ?_
  refine And.intro (fun _ => ?_) (fun c => absurd rfl c)
  refine And.intro (fun _ => ?_) (fun c => ?_)
  · exact K _ _ _ _ _ _ (LI_next hL hre) (by omega) (by omega)
  · refine And.intro ⟨(f 41).1.trans hL.2.2.2.1.1, by rw [show gN (PM ivT _ κ1) (tM 41) = gN κ1 (tM 41) from rfl, (f 41).2.1, hL.2.2.2.1.2]; exact vp_in_nI (n := 0) (by decide) (by decide)⟩ ?_
    refine And.intro (fun _ => ?_) (fun c3 => ?_)
    · exact K _ _ _ _ _ _ (LI_next hL hre) (by omega) (by omega)
    · exfalso
      refine c3 ?_
      have hg := hgl c
      refine Eq.trans (congrArg (fun z => lg_cmp z _) (show _ = _ from hg)) ?_
      exact cmp_0 _
set_option maxRecDepth 20000 in
theorem lc_told {w : W0} {κ : AH} {σ : MS} {n kc ns : Nat} {x5 x6 : Option Value} (hL : LI κ σ) (hn : 7 * n + 7 ≤ w.lX) (hlen : w.lX ≤ 3584) (hkc : kc ≤ 100 + 20 * n) (hns : ns ≤ 4000 + 200 * n) (K : ∀ (κ' : AH) (σ' : MS) (kc' ns' : Nat) (y5 y6 : Option Value), LI κ' σ' → kc' ≤ 100 + 20 * (n + 1) → ns' ≤ 4000 + 200 * (n + 1) → YS w lQv kc' ns' 1729 (LL n y5 y6) [] κ') : YS w lQv kc ns 1282 (LL n x5 x6) [] κ := by
  obtain ⟨nb, nw, np, wb, hRI⟩ := hL.1
  have I := hRI.1
  have h40 := hL.2.2.2.2
  have h4 := hRI.2.1.1.t4
  refine runS_ok (fun p => Nat.beq p 1729) 80 _ _ _ _ _ _ ?_
  refine And.intro (sc_ok hlen hn (j := 1) (by decide) (nI_add (7 * n) 1)) ?_
  refine And.intro (sc_ok hlen hn (j := 2) (by decide) (nI_add (7 * n) 2)) ?_
  refine sL_law_1296 rfl (Nat.ble_eq_true_of_le (by omega)) (Nat.ble_eq_true_of_le (by omega)) (okK_r h4 (okK_i (okK_i (okK_r hL.2.2.2.1.1 okK_n)))) (h_told hRI hL.2.2.2.1) (fun v κ1 q hok1 hkp1 => ?_)
  obtain ⟨e9, hre, hgl⟩ := q
  subst e9
  have f := FM_of hre
  have hJT := JT_f hL.2.1 f
  have hJM := JM_f hL.2.2.1 f
  have h401 : gT κ1 (tM 40) = 0 := (f 40).1.trans h40
  refine ⟨h401, ?_⟩
  refine runS_ok (fun p => Nat.beq p 1729) 80 _ _ _ _ _ _ ?_
  refine And.intro (sc_ok hlen hn (j := 1) (by decide) (nI_add (7 * n) 1)) ?_
  refine And.intro (sc_ok hlen hn (j := 2) (by decide) (nI_add (7 * n) 2)) ?_
  refine sL_law_1314 rfl (Nat.ble_eq_true_of_le (by omega)) (Nat.ble_eq_true_of_le (by omega)) hJT.1 (okK_r hJT.1 (okK_i (okK_i okK_n))) (CY_CM (as := [(w.xs (nI (7 * n) + 1).toNatClampNeg), (w.xs (nI (7 * n) + 2).toNatClampNeg)]) hJT hJM (fun m iv h hm => c_X9_told hm I.b0.1 I.b0.2)) (fun v κ2 q hok2 hkp2 => ?_)
  obtain ⟨r, σ2, e1, e2, e3, e4⟩ := q
  subst e3 e4 e1 e2
  refine ⟨h401, ?_⟩
  refine runS_ok (fun p => Nat.beq p 1729) 80 _ _ _ _ _ _ ?_
  refine sL_law_1320 rfl (Nat.ble_eq_true_of_le (by omega)) (Nat.ble_eq_true_of_le (by omega)) hJT.1 (okK_r hJT.1 okK_n) (CY_CM (as := []) (JT_PM hJT) PM_JM (fun m iv h hm => c_X9_thrown hm)) (fun v κ3 q hok3 hkp3 => ?_)
  obtain ⟨r, σ3, e1, e2, e3, e4⟩ := q
  subst e3 e4 e1 e2
  refine ⟨h401, ?_⟩
  rw [JM_PM PM_JM]
  refine runS_ok (fun p => Nat.beq p 1729) 80 _ _ _ _ _ _ ?_
  refine And.intro (fun _ => ?_) (fun c => absurd rfl c)
  refine And.intro (fun _ => ?_) (fun c => ?_)
  · exact K _ _ _ _ _ _ (LI_next hL hre) (by omega) (by omega)
  · refine And.intro ⟨(f 41).1.trans hL.2.2.2.1.1, by rw [show gN (PM ivT _ κ1) (tM 41) = gN κ1 (tM 41) from rfl, (f 41).2.1, hL.2.2.2.1.2]; exact vp_in_nI (n := 0) (by decide) (by decide)⟩ ?_
    refine And.intro (fun _ => ?_) (fun c3 => ?_)
    · exact K _ _ _ _ _ _ (LI_next hL hre) (by omega) (by omega)
    · exfalso
      refine c3 ?_
      have hg := hgl c
      refine Eq.trans (congrArg (fun z => lg_cmp z _) (show _ = _ from hg)) ?_
      exact cmp_0 _
set_option maxRecDepth 20000 in
theorem lc_weld {w : W0} {κ : AH} {σ : MS} {n kc ns : Nat} {x5 x6 : Option Value} (hL : LI κ σ) (hn : 7 * n + 7 ≤ w.lX) (hlen : w.lX ≤ 3584) (hkc : kc ≤ 100 + 20 * n) (hns : ns ≤ 4000 + 200 * n) (K : ∀ (κ' : AH) (σ' : MS) (kc' ns' : Nat) (y5 y6 : Option Value), LI κ' σ' → kc' ≤ 100 + 20 * (n + 1) → ns' ≤ 4000 + 200 * (n + 1) → YS w lQv kc' ns' 1729 (LL n y5 y6) [] κ') : YS w lQv kc ns 1350 (LL n x5 x6) [] κ := by
  obtain ⟨nb, nw, np, wb, hRI⟩ := hL.1
  have I := hRI.1
  have h40 := hL.2.2.2.2
  have h4 := hRI.2.1.1.t4
  refine runS_ok (fun p => Nat.beq p 1729) 80 _ _ _ _ _ _ ?_
  refine And.intro (sc_ok hlen hn (j := 1) (by decide) (nI_add (7 * n) 1)) ?_
  refine And.intro (sc_ok hlen hn (j := 2) (by decide) (nI_add (7 * n) 2)) ?_
  refine sL_law_1364 rfl (Nat.ble_eq_true_of_le (by omega)) (Nat.ble_eq_true_of_le (by omega)) (okK_r h4 (okK_i (okK_i (okK_r hL.2.2.2.1.1 okK_n)))) (h_weld hRI hL.2.2.2.1) (fun v κ1 q hok1 hkp1 => ?_)
  obtain ⟨e9, hre, hgl⟩ := q
  subst e9
  have f := FM_of hre
  have hJT := JT_f hL.2.1 f
  have hJM := JM_f hL.2.2.1 f
  have h401 : gT κ1 (tM 40) = 0 := (f 40).1.trans h40
  refine ⟨h401, ?_⟩
  refine runS_ok (fun p => Nat.beq p 1729) 80 _ _ _ _ _ _ ?_
  refine And.intro (sc_ok hlen hn (j := 1) (by decide) (nI_add (7 * n) 1)) ?_
  refine And.intro (sc_ok hlen hn (j := 2) (by decide) (nI_add (7 * n) 2)) ?_
  refine sL_law_1382 rfl (Nat.ble_eq_true_of_le (by omega)) (Nat.ble_eq_true_of_le (by omega)) hJT.1 (okK_r hJT.1 (okK_i (okK_i okK_n))) (CY_CM (as := [(w.xs (nI (7 * n) + 1).toNatClampNeg), (w.xs (nI (7 * n) + 2).toNatClampNeg)]) hJT hJM (fun m iv h hm => c_X9_weld hm I.w0.1 I.w0.2)) (fun v κ2 q hok2 hkp2 => ?_)
  obtain ⟨r, σ2, e1, e2, e3, e4⟩ := q
  subst e3 e4 e1 e2
  refine ⟨h401, ?_⟩
  refine runS_ok (fun p => Nat.beq p 1729) 80 _ _ _ _ _ _ ?_
  refine sL_law_1388 rfl (Nat.ble_eq_true_of_le (by omega)) (Nat.ble_eq_true_of_le (by omega)) hJT.1 (okK_r hJT.1 okK_n) (CY_CM (as := []) (JT_PM hJT) PM_JM (fun m iv h hm => c_X9_thrown hm)) (fun v κ3 q hok3 hkp3 => ?_)
  obtain ⟨r, σ3, e1, e2, e3, e4⟩ := q
  subst e3 e4 e1 e2
  refine ⟨h401, ?_⟩
  rw [JM_PM PM_JM]
  refine runS_ok (fun p => Nat.beq p 1729) 80 _ _ _ _ _ _ ?_
  refine And.intro (fun _ => ?_) (fun c => absurd rfl c)
  refine And.intro (fun _ => ?_) (fun c => ?_)
  · exact K _ _ _ _ _ _ (LI_next hL hre) (by omega) (by omega)
  · refine And.intro ⟨(f 41).1.trans hL.2.2.2.1.1, by rw [show gN (PM ivT _ κ1) (tM 41) = gN κ1 (tM 41) from rfl, (f 41).2.1, hL.2.2.2.1.2]; exact vp_in_nI (n := 0) (by decide) (by decide)⟩ ?_
    refine And.intro (fun _ => ?_) (fun c3 => ?_)
    · exact K _ _ _ _ _ _ (LI_next hL hre) (by omega) (by omega)
    · exfalso
      refine c3 ?_
      have hg := hgl c
      refine Eq.trans (congrArg (fun z => lg_cmp z _) (show _ = _ from hg)) ?_
      exact cmp_0 _
set_option maxRecDepth 20000 in
theorem lc_cell {w : W0} {κ : AH} {σ : MS} {n kc ns : Nat} {x5 x6 : Option Value} (hL : LI κ σ) (hn : 7 * n + 7 ≤ w.lX) (hlen : w.lX ≤ 3584) (hkc : kc ≤ 100 + 20 * n) (hns : ns ≤ 4000 + 200 * n) (K : ∀ (κ' : AH) (σ' : MS) (kc' ns' : Nat) (y5 y6 : Option Value), LI κ' σ' → kc' ≤ 100 + 20 * (n + 1) → ns' ≤ 4000 + 200 * (n + 1) → YS w lQv kc' ns' 1729 (LL n y5 y6) [] κ') : YS w lQv kc ns 1418 (LL n x5 x6) [] κ := by
  obtain ⟨nb, nw, np, wb, hRI⟩ := hL.1
  have I := hRI.1
  have h40 := hL.2.2.2.2
  have h4 := hRI.2.1.1.t4
  refine runS_ok (fun p => Nat.beq p 1729) 80 _ _ _ _ _ _ ?_
  refine And.intro (sc_ok hlen hn (j := 1) (by decide) (nI_add (7 * n) 1)) ?_
  refine And.intro (sc_ok hlen hn (j := 2) (by decide) (nI_add (7 * n) 2)) ?_
  refine sL_law_1432 rfl (Nat.ble_eq_true_of_le (by omega)) (Nat.ble_eq_true_of_le (by omega)) (okK_r h4 (okK_i (okK_i (okK_r hL.2.2.2.1.1 okK_n)))) (h_cell hRI hL.2.2.2.1) (fun v κ1 q hok1 hkp1 => ?_)
  obtain ⟨e9, hre, hgl⟩ := q
  subst e9
  have f := FM_of hre
  have hJT := JT_f hL.2.1 f
  have hJM := JM_f hL.2.2.1 f
  have h401 : gT κ1 (tM 40) = 0 := (f 40).1.trans h40
  refine ⟨h401, ?_⟩
  refine runS_ok (fun p => Nat.beq p 1729) 80 _ _ _ _ _ _ ?_
  refine And.intro (sc_ok hlen hn (j := 1) (by decide) (nI_add (7 * n) 1)) ?_
  refine And.intro (sc_ok hlen hn (j := 2) (by decide) (nI_add (7 * n) 2)) ?_
  refine sL_law_1450 rfl (Nat.ble_eq_true_of_le (by omega)) (Nat.ble_eq_true_of_le (by omega)) hJT.1 (okK_r hJT.1 (okK_i (okK_i okK_n))) (CY_CM (as := [(w.xs (nI (7 * n) + 1).toNatClampNeg), (w.xs (nI (7 * n) + 2).toNatClampNeg)]) hJT hJM (fun m iv h hm => c_X9_cell hm)) (fun v κ2 q hok2 hkp2 => ?_)
  obtain ⟨r, σ2, e1, e2, e3, e4⟩ := q
  subst e3 e4 e1 e2
  refine ⟨h401, ?_⟩
  refine runS_ok (fun p => Nat.beq p 1729) 80 _ _ _ _ _ _ ?_
  refine sL_law_1456 rfl (Nat.ble_eq_true_of_le (by omega)) (Nat.ble_eq_true_of_le (by omega)) hJT.1 (okK_r hJT.1 okK_n) (CY_CM (as := []) (JT_PM hJT) PM_JM (fun m iv h hm => c_X9_thrown hm)) (fun v κ3 q hok3 hkp3 => ?_)
  obtain ⟨r, σ3, e1, e2, e3, e4⟩ := q
  subst e3 e4 e1 e2
  refine ⟨h401, ?_⟩
  rw [JM_PM PM_JM]
  refine runS_ok (fun p => Nat.beq p 1729) 80 _ _ _ _ _ _ ?_
  refine And.intro (fun _ => ?_) (fun c => absurd rfl c)
  refine And.intro (fun _ => ?_) (fun c => ?_)
  · exact K _ _ _ _ _ _ (LI_next hL hre) (by omega) (by omega)
  · refine And.intro ⟨(f 41).1.trans hL.2.2.2.1.1, by rw [show gN (PM ivT _ κ1) (tM 41) = gN κ1 (tM 41) from rfl, (f 41).2.1, hL.2.2.2.1.2]; exact vp_in_nI (n := 0) (by decide) (by decide)⟩ ?_
    refine And.intro (fun _ => ?_) (fun c3 => ?_)
    · exact K _ _ _ _ _ _ (LI_next hL hre) (by omega) (by omega)
    · exfalso
      refine c3 ?_
      have hg := hgl c
      refine Eq.trans (congrArg (fun z => lg_cmp z _) (show _ = _ from hg)) ?_
      exact cmp_0 _
set_option maxRecDepth 20000 in
theorem lc_roomAt {w : W0} {κ : AH} {σ : MS} {n kc ns : Nat} {x5 x6 : Option Value} (hL : LI κ σ) (hn : 7 * n + 7 ≤ w.lX) (hlen : w.lX ≤ 3584) (hkc : kc ≤ 100 + 20 * n) (hns : ns ≤ 4000 + 200 * n) (K : ∀ (κ' : AH) (σ' : MS) (kc' ns' : Nat) (y5 y6 : Option Value), LI κ' σ' → kc' ≤ 100 + 20 * (n + 1) → ns' ≤ 4000 + 200 * (n + 1) → YS w lQv kc' ns' 1729 (LL n y5 y6) [] κ') : YS w lQv kc ns 1486 (LL n x5 x6) [] κ := by
  obtain ⟨nb, nw, np, wb, hRI⟩ := hL.1
  have I := hRI.1
  have h40 := hL.2.2.2.2
  have h4 := hRI.2.1.1.t4
  refine runS_ok (fun p => Nat.beq p 1729) 80 _ _ _ _ _ _ ?_
  refine And.intro (sc_ok hlen hn (j := 1) (by decide) (nI_add (7 * n) 1)) ?_
  refine And.intro (sc_ok hlen hn (j := 2) (by decide) (nI_add (7 * n) 2)) ?_
  refine sL_law_1500 rfl (Nat.ble_eq_true_of_le (by omega)) (Nat.ble_eq_true_of_le (by omega)) (okK_r h4 (okK_i (okK_i (okK_r hL.2.2.2.1.1 okK_n)))) (h_roomAt hRI hL.2.2.2.1) (fun v κ1 q hok1 hkp1 => ?_)
  obtain ⟨e9, hre, hgl⟩ := q
  subst e9
  have f := FM_of hre
  have hJT := JT_f hL.2.1 f
  have hJM := JM_f hL.2.2.1 f
  have h401 : gT κ1 (tM 40) = 0 := (f 40).1.trans h40
  refine ⟨h401, ?_⟩
  refine runS_ok (fun p => Nat.beq p 1729) 80 _ _ _ _ _ _ ?_
  refine And.intro (sc_ok hlen hn (j := 1) (by decide) (nI_add (7 * n) 1)) ?_
  refine And.intro (sc_ok hlen hn (j := 2) (by decide) (nI_add (7 * n) 2)) ?_
  refine sL_law_1518 rfl (Nat.ble_eq_true_of_le (by omega)) (Nat.ble_eq_true_of_le (by omega)) hJT.1 (okK_r hJT.1 (okK_i (okK_i okK_n))) (CY_CM (as := [(w.xs (nI (7 * n) + 1).toNatClampNeg), (w.xs (nI (7 * n) + 2).toNatClampNeg)]) hJT hJM (fun m iv h hm => c_X9_roomAt hm I.p0.1 I.p0.2 (rat_in hRI))) (fun v κ2 q hok2 hkp2 => ?_)
  obtain ⟨r, σ2, e1, e2, e3, e4⟩ := q
  subst e3 e4 e1 e2
  refine ⟨h401, ?_⟩
  refine runS_ok (fun p => Nat.beq p 1729) 80 _ _ _ _ _ _ ?_
  refine sL_law_1524 rfl (Nat.ble_eq_true_of_le (by omega)) (Nat.ble_eq_true_of_le (by omega)) hJT.1 (okK_r hJT.1 okK_n) (CY_CM (as := []) (JT_PM hJT) PM_JM (fun m iv h hm => c_X9_thrown hm)) (fun v κ3 q hok3 hkp3 => ?_)
  obtain ⟨r, σ3, e1, e2, e3, e4⟩ := q
  subst e3 e4 e1 e2
  refine ⟨h401, ?_⟩
  rw [JM_PM PM_JM]
  refine runS_ok (fun p => Nat.beq p 1729) 80 _ _ _ _ _ _ ?_
  refine And.intro (fun _ => ?_) (fun c => absurd rfl c)
  refine And.intro (fun _ => ?_) (fun c => ?_)
  · exact K _ _ _ _ _ _ (LI_next hL hre) (by omega) (by omega)
  · refine And.intro ⟨(f 41).1.trans hL.2.2.2.1.1, by rw [show gN (PM ivT _ κ1) (tM 41) = gN κ1 (tM 41) from rfl, (f 41).2.1, hL.2.2.2.1.2]; exact vp_in_nI (n := 0) (by decide) (by decide)⟩ ?_
    refine And.intro (fun _ => ?_) (fun c3 => ?_)
    · exact K _ _ _ _ _ _ (LI_next hL hre) (by omega) (by omega)
    · exfalso
      refine c3 ?_
      have hg := hgl c
      refine Eq.trans (congrArg (fun z => lg_cmp z _) (show _ = _ from hg)) ?_
      exact cmp_0 _
set_option maxRecDepth 20000 in
theorem lc_tons {w : W0} {κ : AH} {σ : MS} {n kc ns : Nat} {x5 x6 : Option Value} (hL : LI κ σ) (hn : 7 * n + 7 ≤ w.lX) (hlen : w.lX ≤ 3584) (hkc : kc ≤ 100 + 20 * n) (hns : ns ≤ 4000 + 200 * n) (K : ∀ (κ' : AH) (σ' : MS) (kc' ns' : Nat) (y5 y6 : Option Value), LI κ' σ' → kc' ≤ 100 + 20 * (n + 1) → ns' ≤ 4000 + 200 * (n + 1) → YS w lQv kc' ns' 1729 (LL n y5 y6) [] κ') : YS w lQv kc ns 1554 (LL n x5 x6) [] κ := by
  obtain ⟨nb, nw, np, wb, hRI⟩ := hL.1
  have I := hRI.1
  have h40 := hL.2.2.2.2
  have h4 := hRI.2.1.1.t4
  refine runS_ok (fun p => Nat.beq p 1729) 80 _ _ _ _ _ _ ?_
  refine sL_law_1555 rfl (Nat.ble_eq_true_of_le (by omega)) (Nat.ble_eq_true_of_le (by omega)) h4 (okK_r h4 okK_n) (k_tons (κ0 := κ) hRI) (fun v κ1 q hok1 hkp1 => ?_)
  obtain ⟨h34, e9, hre⟩ := q
  subst e9
  have f := FM_of hre
  have hJT := JT_f hL.2.1 f
  have hJM := JM_f hL.2.2.1 f
  have h401 : gT κ1 (tM 40) = 0 := (f 40).1.trans h40
  refine ⟨h401, ?_⟩
  refine runS_ok (fun p => Nat.beq p 1729) 80 _ _ _ _ _ _ ?_
  refine sL_law_1559 rfl (Nat.ble_eq_true_of_le (by omega)) (Nat.ble_eq_true_of_le (by omega)) hJT.1 (okK_r hJT.1 okK_n) (CY_CM (as := []) hJT hJM (fun m iv h hm => c_X9_tons hm I.n8 I.e8)) (fun v κ2 q hok2 hkp2 => ?_)
  obtain ⟨r, σ2, e1, e2, e3, e4⟩ := q
  subst e3 e4 e1 e2
  refine ⟨h401, ?_⟩
  refine runS_ok (fun p => Nat.beq p 1729) 80 _ _ _ _ _ _ ?_
  refine And.intro (fun _ => ?_) (fun c => absurd rfl c)
  exact K _ _ _ _ _ _ (LI_next hL hre) (by omega) (by omega)
set_option maxRecDepth 20000 in
theorem lc_tonsAnew {w : W0} {κ : AH} {σ : MS} {n kc ns : Nat} {x5 x6 : Option Value} (hL : LI κ σ) (hn : 7 * n + 7 ≤ w.lX) (hlen : w.lX ≤ 3584) (hkc : kc ≤ 100 + 20 * n) (hns : ns ≤ 4000 + 200 * n) (K : ∀ (κ' : AH) (σ' : MS) (kc' ns' : Nat) (y5 y6 : Option Value), LI κ' σ' → kc' ≤ 100 + 20 * (n + 1) → ns' ≤ 4000 + 200 * (n + 1) → YS w lQv kc' ns' 1729 (LL n y5 y6) [] κ') : YS w lQv kc ns 1567 (LL n x5 x6) [] κ := by
  obtain ⟨nb, nw, np, wb, hRI⟩ := hL.1
  have I := hRI.1
  have h40 := hL.2.2.2.2
  have h4 := hRI.2.1.1.t4
  refine runS_ok (fun p => Nat.beq p 1729) 80 _ _ _ _ _ _ ?_
  refine sL_law_1568 rfl (Nat.ble_eq_true_of_le (by omega)) (Nat.ble_eq_true_of_le (by omega)) h4 (okK_r h4 okK_n) (k_tonsAnew (κ0 := κ) hRI) (fun v κ1 q hok1 hkp1 => ?_)
  obtain ⟨h34, e9, hre⟩ := q
  subst e9
  have f := FM_of hre
  have hJT := JT_f hL.2.1 f
  have hJM := JM_f hL.2.2.1 f
  have h401 : gT κ1 (tM 40) = 0 := (f 40).1.trans h40
  refine ⟨h401, ?_⟩
  refine runS_ok (fun p => Nat.beq p 1729) 80 _ _ _ _ _ _ ?_
  refine sL_law_1572 rfl (Nat.ble_eq_true_of_le (by omega)) (Nat.ble_eq_true_of_le (by omega)) hJT.1 (okK_r hJT.1 okK_n) (CY_CM (as := []) hJT hJM (fun m iv h hm => c_X9_tonsAnew hm I.n8 I.e8)) (fun v κ2 q hok2 hkp2 => ?_)
  obtain ⟨r, σ2, e1, e2, e3, e4⟩ := q
  subst e3 e4 e1 e2
  refine ⟨h401, ?_⟩
  refine runS_ok (fun p => Nat.beq p 1729) 80 _ _ _ _ _ _ ?_
  refine And.intro (fun _ => ?_) (fun c => absurd rfl c)
  exact K _ _ _ _ _ _ (LI_next hL hre) (by omega) (by omega)
set_option maxRecDepth 20000 in
theorem lc_centre {w : W0} {κ : AH} {σ : MS} {n kc ns : Nat} {x5 x6 : Option Value} (hL : LI κ σ) (hn : 7 * n + 7 ≤ w.lX) (hlen : w.lX ≤ 3584) (hkc : kc ≤ 100 + 20 * n) (hns : ns ≤ 4000 + 200 * n) (K : ∀ (κ' : AH) (σ' : MS) (kc' ns' : Nat) (y5 y6 : Option Value), LI κ' σ' → kc' ≤ 100 + 20 * (n + 1) → ns' ≤ 4000 + 200 * (n + 1) → YS w lQv kc' ns' 1729 (LL n y5 y6) [] κ') : YS w lQv kc ns 1580 (LL n x5 x6) [] κ := by
  obtain ⟨nb, nw, np, wb, hRI⟩ := hL.1
  have I := hRI.1
  have h40 := hL.2.2.2.2
  have h4 := hRI.2.1.1.t4
  refine runS_ok (fun p => Nat.beq p 1729) 80 _ _ _ _ _ _ ?_
  refine sL_law_1581 rfl (Nat.ble_eq_true_of_le (by omega)) (Nat.ble_eq_true_of_le (by omega)) h4 (okK_r h4 okK_n) (k_centre (κ0 := κ) hRI) (fun v κ1 q hok1 hkp1 => ?_)
  obtain ⟨h34, e9, hre⟩ := q
  subst e9
  have f := FM_of hre
  have hJT := JT_f hL.2.1 f
  have hJM := JM_f hL.2.2.1 f
  have h401 : gT κ1 (tM 40) = 0 := (f 40).1.trans h40
  refine ⟨h401, ?_⟩
  refine runS_ok (fun p => Nat.beq p 1729) 80 _ _ _ _ _ _ ?_
  refine sL_law_1585 rfl (Nat.ble_eq_true_of_le (by omega)) (Nat.ble_eq_true_of_le (by omega)) hJT.1 (okK_r hJT.1 okK_n) (CY_CM (as := []) hJT hJM (fun m iv h hm => c_X9_centre hm I.n8 I.e8)) (fun v κ2 q hok2 hkp2 => ?_)
  obtain ⟨r, σ2, e1, e2, e3, e4⟩ := q
  subst e3 e4 e1 e2
  refine ⟨h401, ?_⟩
  refine runS_ok (fun p => Nat.beq p 1729) 80 _ _ _ _ _ _ ?_
  refine And.intro (fun _ => ?_) (fun c => absurd rfl c)
  exact K _ _ _ _ _ _ (LI_next hL hre) (by omega) (by omega)
set_option maxRecDepth 20000 in
theorem lc_draught {w : W0} {κ : AH} {σ : MS} {n kc ns : Nat} {x5 x6 : Option Value} (hL : LI κ σ) (hn : 7 * n + 7 ≤ w.lX) (hlen : w.lX ≤ 3584) (hkc : kc ≤ 100 + 20 * n) (hns : ns ≤ 4000 + 200 * n) (K : ∀ (κ' : AH) (σ' : MS) (kc' ns' : Nat) (y5 y6 : Option Value), LI κ' σ' → kc' ≤ 100 + 20 * (n + 1) → ns' ≤ 4000 + 200 * (n + 1) → YS w lQv kc' ns' 1729 (LL n y5 y6) [] κ') : YS w lQv kc ns 1593 (LL n x5 x6) [] κ := by
  obtain ⟨nb, nw, np, wb, hRI⟩ := hL.1
  have I := hRI.1
  have h40 := hL.2.2.2.2
  have h4 := hRI.2.1.1.t4
  refine runS_ok (fun p => Nat.beq p 1729) 80 _ _ _ _ _ _ ?_
  refine And.intro (sc_ok hlen hn (j := 1) (by decide) (nI_add (7 * n) 1)) ?_
  refine And.intro (fun hu => ?_) (fun hu => ?_)
  · skip
    refine sL_law_1608 rfl (Nat.ble_eq_true_of_le (by omega)) (Nat.ble_eq_true_of_le (by omega)) h4 (okK_r h4 (okK_i okK_n)) (k_draught (κ0 := κ) hRI) (fun v κ1 q hok1 hkp1 => ?_)
    obtain ⟨h34, e9, hre⟩ := q
    subst e9
    have f := FM_of hre
    have hJT := JT_f hL.2.1 f
    have hJM := JM_f hL.2.2.1 f
    have h401 : gT κ1 (tM 40) = 0 := (f 40).1.trans h40
    refine ⟨h401, ?_⟩
    refine runS_ok (fun p => Nat.beq p 1729) 80 _ _ _ _ _ _ ?_
    refine And.intro (sc_ok hlen hn (j := 1) (by decide) (nI_add (7 * n) 1)) ?_
    refine And.intro (fun c => ?_) (fun c => ?_)
    · skip
      refine sL_law_1626 rfl (Nat.ble_eq_true_of_le (by omega)) (Nat.ble_eq_true_of_le (by omega)) hJT.1 (okK_r hJT.1 (okK_i okK_n)) (CY_CM (as := [0]) hJT hJM (fun m iv h hm => c_X9_draught hm I.n8 I.e8)) (fun v κ2 q hok2 hkp2 => ?_)
      obtain ⟨r, σ2, e1, e2, e3, e4⟩ := q
      subst e3 e4 e1 e2
      refine ⟨h401, ?_⟩
      refine runS_ok (fun p => Nat.beq p 1729) 80 _ _ _ _ _ _ ?_
      refine And.intro (fun _ => ?_) (fun c => absurd rfl c)
      exact K _ _ _ _ _ _ (LI_next hL hre) (by omega) (by omega)
    · skip
      exact absurd hu c
  · skip
    refine sL_law_1608 rfl (Nat.ble_eq_true_of_le (by omega)) (Nat.ble_eq_true_of_le (by omega)) h4 (okK_r h4 (okK_i okK_n)) (k_draught (κ0 := κ) hRI) (fun v κ1 q hok1 hkp1 => ?_)
    obtain ⟨h34, e9, hre⟩ := q
    subst e9
    have f := FM_of hre
    have hJT := JT_f hL.2.1 f
    have hJM := JM_f hL.2.2.1 f
    have h401 : gT κ1 (tM 40) = 0 := (f 40).1.trans h40
    refine ⟨h401, ?_⟩
    refine runS_ok (fun p => Nat.beq p 1729) 80 _ _ _ _ _ _ ?_
    refine And.intro (sc_ok hlen hn (j := 1) (by decide) (nI_add (7 * n) 1)) ?_
    refine And.intro (fun c => ?_) (fun c => ?_)
    · skip
      exact absurd c hu
    · skip
      refine sL_law_1626 rfl (Nat.ble_eq_true_of_le (by omega)) (Nat.ble_eq_true_of_le (by omega)) hJT.1 (okK_r hJT.1 (okK_i okK_n)) (CY_CM (as := [1]) hJT hJM (fun m iv h hm => c_X9_draught hm I.n8 I.e8)) (fun v κ2 q hok2 hkp2 => ?_)
      obtain ⟨r, σ2, e1, e2, e3, e4⟩ := q
      subst e3 e4 e1 e2
      refine ⟨h401, ?_⟩
      refine runS_ok (fun p => Nat.beq p 1729) 80 _ _ _ _ _ _ ?_
      refine And.intro (fun _ => ?_) (fun c => absurd rfl c)
      exact K _ _ _ _ _ _ (LI_next hL hre) (by omega) (by omega)
set_option maxRecDepth 20000 in
theorem lc_water {w : W0} {κ : AH} {σ : MS} {n kc ns : Nat} {x5 x6 : Option Value} (hL : LI κ σ) (hn : 7 * n + 7 ≤ w.lX) (hlen : w.lX ≤ 3584) (hkc : kc ≤ 100 + 20 * n) (hns : ns ≤ 4000 + 200 * n) (K : ∀ (κ' : AH) (σ' : MS) (kc' ns' : Nat) (y5 y6 : Option Value), LI κ' σ' → kc' ≤ 100 + 20 * (n + 1) → ns' ≤ 4000 + 200 * (n + 1) → YS w lQv kc' ns' 1729 (LL n y5 y6) [] κ') : YS w lQv kc ns 1634 (LL n x5 x6) [] κ := by
  obtain ⟨nb, nw, np, wb, hRI⟩ := hL.1
  have I := hRI.1
  have h40 := hL.2.2.2.2
  have h4 := hRI.2.1.1.t4
  refine runS_ok (fun p => Nat.beq p 1729) 80 _ _ _ _ _ _ ?_
  refine And.intro (sc_ok hlen hn (j := 1) (by decide) (nI_add (7 * n) 1)) ?_
  refine sL_law_1642 rfl (Nat.ble_eq_true_of_le (by omega)) (Nat.ble_eq_true_of_le (by omega)) (okK_r h4 (okK_i (okK_r hL.2.2.2.1.1 okK_n))) (h_water hRI hL.2.2.2.1) (fun v κ1 q hok1 hkp1 => ?_)
  obtain ⟨e9, hre, hgl⟩ := q
  subst e9
  have f := FM_of hre
  have hJT := JT_f hL.2.1 f
  have hJM := JM_f hL.2.2.1 f
  have h401 : gT κ1 (tM 40) = 0 := (f 40).1.trans h40
  refine ⟨h401, ?_⟩
  refine runS_ok (fun p => Nat.beq p 1729) 80 _ _ _ _ _ _ ?_
  refine And.intro (sc_ok hlen hn (j := 1) (by decide) (nI_add (7 * n) 1)) ?_
  refine sL_law_1654 rfl (Nat.ble_eq_true_of_le (by omega)) (Nat.ble_eq_true_of_le (by omega)) hJT.1 (okK_r hJT.1 (okK_i okK_n)) (CY_CM (as := [(w.xs (nI (7 * n) + 1).toNatClampNeg)]) hJT hJM (fun m iv h hm => c_X9_water hm)) (fun v κ2 q hok2 hkp2 => ?_)
  obtain ⟨r, σ2, e1, e2, e3, e4⟩ := q
  subst e3 e4 e1 e2
  refine ⟨h401, ?_⟩
  refine runS_ok (fun p => Nat.beq p 1729) 80 _ _ _ _ _ _ ?_
  refine sL_law_1660 rfl (Nat.ble_eq_true_of_le (by omega)) (Nat.ble_eq_true_of_le (by omega)) hJT.1 (okK_r hJT.1 okK_n) (CY_CM (as := []) (JT_PM hJT) PM_JM (fun m iv h hm => c_X9_thrown hm)) (fun v κ3 q hok3 hkp3 => ?_)
  obtain ⟨r, σ3, e1, e2, e3, e4⟩ := q
  subst e3 e4 e1 e2
  refine ⟨h401, ?_⟩
  rw [JM_PM PM_JM]
  refine runS_ok (fun p => Nat.beq p 1729) 80 _ _ _ _ _ _ ?_
  refine And.intro (fun _ => ?_) (fun c => absurd rfl c)
  refine And.intro (fun _ => ?_) (fun c => ?_)
  · exact K _ _ _ _ _ _ (LI_next hL hre) (by omega) (by omega)
  · refine And.intro ⟨(f 41).1.trans hL.2.2.2.1.1, by rw [show gN (PM ivT _ κ1) (tM 41) = gN κ1 (tM 41) from rfl, (f 41).2.1, hL.2.2.2.1.2]; exact vp_in_nI (n := 0) (by decide) (by decide)⟩ ?_
    refine And.intro (fun _ => ?_) (fun c3 => ?_)
    · exact K _ _ _ _ _ _ (LI_next hL hre) (by omega) (by omega)
    · exfalso
      refine c3 ?_
      have hg := hgl c
      refine Eq.trans (congrArg (fun z => lg_cmp z _) (show _ = _ from hg)) ?_
      exact cmp_0 _
set_option maxRecDepth 20000 in
theorem lc_firstHour {w : W0} {κ : AH} {σ : MS} {n kc ns : Nat} {x5 x6 : Option Value} (hL : LI κ σ) (hn : 7 * n + 7 ≤ w.lX) (hlen : w.lX ≤ 3584) (hkc : kc ≤ 100 + 20 * n) (hns : ns ≤ 4000 + 200 * n) (K : ∀ (κ' : AH) (σ' : MS) (kc' ns' : Nat) (y5 y6 : Option Value), LI κ' σ' → kc' ≤ 100 + 20 * (n + 1) → ns' ≤ 4000 + 200 * (n + 1) → YS w lQv kc' ns' 1729 (LL n y5 y6) [] κ') : YS w lQv kc ns 1690 (LL n x5 x6) [] κ := by
  obtain ⟨nb, nw, np, wb, hRI⟩ := hL.1
  have I := hRI.1
  have h40 := hL.2.2.2.2
  have h4 := hRI.2.1.1.t4
  refine runS_ok (fun p => Nat.beq p 1729) 80 _ _ _ _ _ _ ?_
  refine sL_law_1691 rfl (Nat.ble_eq_true_of_le (by omega)) (Nat.ble_eq_true_of_le (by omega)) h4 (okK_r h4 okK_n) (k_firstHour (κ0 := κ) hRI) (fun v κ1 q hok1 hkp1 => ?_)
  obtain ⟨h34, e9, hre⟩ := q
  subst e9
  have f := FM_of hre
  have hJT := JT_f hL.2.1 f
  have hJM := JM_f hL.2.2.1 f
  have h401 : gT κ1 (tM 40) = 0 := (f 40).1.trans h40
  refine ⟨h401, ?_⟩
  refine runS_ok (fun p => Nat.beq p 1729) 80 _ _ _ _ _ _ ?_
  refine sL_law_1695 rfl (Nat.ble_eq_true_of_le (by omega)) (Nat.ble_eq_true_of_le (by omega)) hJT.1 (okK_r hJT.1 okK_n) (CY_CM (as := []) hJT hJM (fun m iv h hm => c_X9_firstHour hm I.ch I.e8 I.n18 I.e18 (wb_or hRI))) (fun v κ2 q hok2 hkp2 => ?_)
  obtain ⟨r, σ2, e1, e2, e3, e4⟩ := q
  subst e3 e4 e1 e2
  refine ⟨h401, ?_⟩
  refine runS_ok (fun p => Nat.beq p 1729) 80 _ _ _ _ _ _ ?_
  refine And.intro (fun _ => ?_) (fun c => absurd rfl c)
  exact K _ _ _ _ _ _ (LI_next hL hre) (by omega) (by omega)
set_option maxRecDepth 20000 in
theorem lc_money {w : W0} {κ : AH} {σ : MS} {n kc ns : Nat} {x5 x6 : Option Value} (hL : LI κ σ) (hn : 7 * n + 7 ≤ w.lX) (hlen : w.lX ≤ 3584) (hkc : kc ≤ 100 + 20 * n) (hns : ns ≤ 4000 + 200 * n) (K : ∀ (κ' : AH) (σ' : MS) (kc' ns' : Nat) (y5 y6 : Option Value), LI κ' σ' → kc' ≤ 100 + 20 * (n + 1) → ns' ≤ 4000 + 200 * (n + 1) → YS w lQv kc' ns' 1729 (LL n y5 y6) [] κ') : YS w lQv kc ns 1703 (LL n x5 x6) [] κ := by
  obtain ⟨nb, nw, np, wb, hRI⟩ := hL.1
  have I := hRI.1
  have h40 := hL.2.2.2.2
  have h4 := hRI.2.1.1.t4
  refine runS_ok (fun p => Nat.beq p 1729) 80 _ _ _ _ _ _ ?_
  refine sL_law_1704 rfl (Nat.ble_eq_true_of_le (by omega)) (Nat.ble_eq_true_of_le (by omega)) h4 (okK_r h4 okK_n) (k_money (κ0 := κ) hRI) (fun v κ1 q hok1 hkp1 => ?_)
  obtain ⟨h34, e9, hre⟩ := q
  subst e9
  have f := FM_of hre
  have hJT := JT_f hL.2.1 f
  have hJM := JM_f hL.2.2.1 f
  have h401 : gT κ1 (tM 40) = 0 := (f 40).1.trans h40
  refine ⟨h401, ?_⟩
  refine runS_ok (fun p => Nat.beq p 1729) 80 _ _ _ _ _ _ ?_
  refine sL_law_1708 rfl (Nat.ble_eq_true_of_le (by omega)) (Nat.ble_eq_true_of_le (by omega)) hJT.1 (okK_r hJT.1 okK_n) (CY_CM (as := []) hJT hJM (fun m iv h hm => c_X9_money hm)) (fun v κ2 q hok2 hkp2 => ?_)
  obtain ⟨r, σ2, e1, e2, e3, e4⟩ := q
  subst e3 e4 e1 e2
  refine ⟨h401, ?_⟩
  refine runS_ok (fun p => Nat.beq p 1729) 80 _ _ _ _ _ _ ?_
  refine And.intro (fun _ => ?_) (fun c => absurd rfl c)
  exact K _ _ _ _ _ _ (LI_next hL hre) (by omega) (by omega)
set_option maxRecDepth 20000 in
theorem lc_moneyAnew {w : W0} {κ : AH} {σ : MS} {n kc ns : Nat} {x5 x6 : Option Value} (hL : LI κ σ) (hn : 7 * n + 7 ≤ w.lX) (hlen : w.lX ≤ 3584) (hkc : kc ≤ 100 + 20 * n) (hns : ns ≤ 4000 + 200 * n) (K : ∀ (κ' : AH) (σ' : MS) (kc' ns' : Nat) (y5 y6 : Option Value), LI κ' σ' → kc' ≤ 100 + 20 * (n + 1) → ns' ≤ 4000 + 200 * (n + 1) → YS w lQv kc' ns' 1729 (LL n y5 y6) [] κ') : YS w lQv kc ns 1716 (LL n x5 x6) [] κ := by
  obtain ⟨nb, nw, np, wb, hRI⟩ := hL.1
  have I := hRI.1
  have h40 := hL.2.2.2.2
  have h4 := hRI.2.1.1.t4
  refine runS_ok (fun p => Nat.beq p 1729) 80 _ _ _ _ _ _ ?_
  refine sL_law_1717 rfl (Nat.ble_eq_true_of_le (by omega)) (Nat.ble_eq_true_of_le (by omega)) h4 (okK_r h4 okK_n) (k_moneyAnew (κ0 := κ) hRI) (fun v κ1 q hok1 hkp1 => ?_)
  obtain ⟨h34, e9, hre⟩ := q
  subst e9
  have f := FM_of hre
  have hJT := JT_f hL.2.1 f
  have hJM := JM_f hL.2.2.1 f
  have h401 : gT κ1 (tM 40) = 0 := (f 40).1.trans h40
  refine ⟨h401, ?_⟩
  refine runS_ok (fun p => Nat.beq p 1729) 80 _ _ _ _ _ _ ?_
  refine sL_law_1721 rfl (Nat.ble_eq_true_of_le (by omega)) (Nat.ble_eq_true_of_le (by omega)) hJT.1 (okK_r hJT.1 okK_n) (CY_CM (as := []) hJT hJM (fun m iv h hm => c_X9_moneyAnew hm)) (fun v κ2 q hok2 hkp2 => ?_)
  obtain ⟨r, σ2, e1, e2, e3, e4⟩ := q
  subst e3 e4 e1 e2
  refine ⟨h401, ?_⟩
  refine runS_ok (fun p => Nat.beq p 1729) 80 _ _ _ _ _ _ ?_
  refine And.intro (fun _ => ?_) (fun c => absurd rfl c)
  exact K _ _ _ _ _ _ (LI_next hL hre) (by omega) (by omega)

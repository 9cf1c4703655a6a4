
/-! THE LAW'S isSo -/
def CS (κ κb : AH) (σ : MS) (nb nw np : Nat) : Prop := (∃ wb, RI κb κb σ nb nw np wb) ∧ AK κb ∧ SK κ κb
theorem up34 {σ : MS} (h : σ.1 34 = 0) : upS σ 34 0 = σ := Prod.ext (funext fun j => by
  show (if j = 34 then 0 else σ.1 j) = σ.1 j
  by_cases e : j = 34
  · rw [if_pos e, e, h]
  · rw [if_neg e]) rfl
theorem SK.trans {κ κ1 κ2 : AH} (h : SK κ κ1) (h2 : SK κ1 κ2) : SK κ κ2 := fun i => ⟨(h2 i).1.trans (h i).1, (h2 i).2.trans (h i).2⟩
theorem CS_next {κ κb κ' : AH} {p : Nat} {l : LSt} {σ : MS} {nb nw np : Nat} (h : CS κ κb σ nb nw np) (hre : RE (PL κb p l) κ' σ) : ∃ κ1, κ' = PL κ1 p l ∧ CS κ κ1 σ nb nw np := by
  obtain ⟨⟨wb, hI⟩, A, S⟩ := h
  obtain ⟨κ1, e, hR, hk⟩ := PL_back hre
  exact ⟨κ1, e, RE_n hR hI.1.e8 hI.1.e18 hI.1.e30 hI.1.n8 hI.1.n18 hI.1.n30, AK_of A hk, S.trans hk⟩
/-- a call that answers x and leaves the state -/
theorem d_of {w : W0} {y : MethodName} {M : MI} {as : List Value} {κ κb : AH} {p : Nat} {l : LSt} {σ : MS} {nb nw np : Nat} {a : Int32 × MS} {x : Int32} (h : CS κ κb σ nb nw np) (hc : CY w y M as (PL κb p l) (fun v κ' => ok (PL κb p l) a v κ')) (ha : a = (x, σ)) : CY w y M as (PL κb p l) (fun v κ' => v = some (.int x) ∧ ∃ κ1, κ' = PL κ1 p l ∧ CS κ κ1 σ nb nw np) :=
  hc.mono fun v κ' q => by
    obtain ⟨_, rfl, hre⟩ := q
    subst ha
    exact ⟨rfl, CS_next h hre⟩
section DS
variable {w : W0} {κ κb : AH} {p : Nat} {l : LSt} {σ : MS} {nb nw np : Nat} {x : Int32}
theorem nx1 {a : MS} {E F : String} (h0 : a.1 34 = 0) (κ' : AH) : ¬ (RE (PL κb p l) κ' a ∧ ((a.1 34 = 1 ∧ E = F))) := fun z => by have := z.2.1; rw [h0] at this; exact absurd this (by decide)
theorem nx2 {a : MS} {E F G : String} (h0 : a.1 34 = 0) (κ' : AH) : ¬ (RE (PL κb p l) κ' a ∧ ((a.1 34 = 1 ∧ E = F) ∨ (a.1 34 = 2 ∧ E = G))) := fun z => by
  rcases z.2 with q | q
  · have := q.1; rw [h0] at this; exact absurd this (by decide)
  · have := q.1; rw [h0] at this; exact absurd this (by decide)
theorem d_told {i q : Nat} (h : CS κ κb σ nb nw np) (h34 : σ.1 34 = 0) (hi : i < nb) (hq : q ≤ 7) (hx : tBlk σ (nI i) (nI q) = x) : CY w yX8_told mX8_told [.ref (tS 4), .int (nI i), .int (nI q)] (PL κb p l) (fun v κ' => v = some (.int x) ∧ ∃ κ1, κ' = PL κ1 p l ∧ CS κ κ1 σ nb nw np) := by
  obtain ⟨wb, hI⟩ := h.1
  have n8 := hI.1.n8
  have em : mTold σ (nI i) (nI q) = (x, σ) := by
    unfold mTold kBlk
    rw [if_pos ((isB_blk n8 hI.1.e8).mpr ⟨nI_pos' (by omega), nI_lt hi (by omega)⟩), if_pos (show (0 : Int32) ≤ nI q ∧ nI q ≤ 7 from ⟨nI_pos' (by omega), nI_le (b := 7) hq (by decide)⟩), if_pos rfl, hx, up34 h34]
  refine d_of h (CY_noX (k_told (RI_PL hI)) (fun E κ' => ?_)) em
  rw [em]; exact nx2 h34 κ'
theorem d_weld {i q : Nat} (h : CS κ κb σ nb nw np) (h34 : σ.1 34 = 0) (hi : i < nw) (hq : q ≤ 3) (hx : tWld σ (nI i) (nI q) = x) : CY w yX8_weld mX8_weld [.ref (tS 4), .int (nI i), .int (nI q)] (PL κb p l) (fun v κ' => v = some (.int x) ∧ ∃ κ1, κ' = PL κ1 p l ∧ CS κ κ1 σ nb nw np) := by
  obtain ⟨wb, hI⟩ := h.1
  have n8 := hI.1.n18
  have em : mWeld σ (nI i) (nI q) = (x, σ) := by
    unfold mWeld kWld
    rw [if_pos ((isB_wld n8 hI.1.e18).mpr ⟨nI_pos' (by omega), nI_lt hi (by omega)⟩), if_pos (show (0 : Int32) ≤ nI q ∧ nI q ≤ 3 from ⟨nI_pos' (by omega), nI_le (b := 3) hq (by decide)⟩), if_pos rfl, hx, up34 h34]
  refine d_of h (CY_noX (k_weld (RI_PL hI)) (fun E κ' => ?_)) em
  rw [em]; exact nx2 h34 κ'
theorem d_cell {i q : Nat} (h : CS κ κb σ nb nw np) (h34 : σ.1 34 = 0) (hi : i < 36) (hq : q ≤ 4) (hx : tCell σ (nI i) (nI q) = x) : CY w yX8_cell mX8_cell [.ref (tS 4), .int (nI i), .int (nI q)] (PL κb p l) (fun v κ' => v = some (.int x) ∧ ∃ κ1, κ' = PL κ1 p l ∧ CS κ κ1 σ nb nw np) := by
  obtain ⟨wb, hI⟩ := h.1
  have em : mCell σ (nI i) (nI q) = (x, σ) := by
    unfold mCell kCell
    rw [if_pos (show (0 : Int32) ≤ nI i ∧ nI i ≤ 35 from ⟨nI_pos' (by omega), nI_le (b := 35) (by omega) (by decide)⟩), if_pos (show (0 : Int32) ≤ nI q ∧ nI q ≤ 4 from ⟨nI_pos' (by omega), nI_le (b := 4) hq (by decide)⟩), if_pos rfl, hx, up34 h34]
  refine d_of h (CY_noX (k_cell (RI_PL hI)) (fun E κ' => ?_)) em
  rw [em]; exact nx2 h34 κ'
theorem d_whyNot {i : Nat} (h : CS κ κb σ nb nw np) (h34 : σ.1 34 = 0) (hi : i < nb) (hx : rsn σ i = x) : CY w yX8_whyNot mX8_whyNot [.ref (tS 4), .int (nI i)] (PL κb p l) (fun v κ' => v = some (.int x) ∧ ∃ κ1, κ' = PL κ1 p l ∧ CS κ κ1 σ nb nw np) := by
  obtain ⟨wb, hI⟩ := h.1
  have n8 := hI.1.n8
  have em : mWhy σ (nI i) = (x, σ) := by
    unfold mWhy kWhy
    rw [if_pos ((isB_blk n8 hI.1.e8).mpr ⟨nI_pos' (by omega), nI_lt hi (by omega)⟩), if_pos rfl, nI_clamp (by omega), hx, up34 h34]
  refine d_of h (CY_noX (k_whyNot (RI_PL hI)) (fun E κ' => ?_)) em
  rw [em]; exact nx1 h34 κ'
theorem d_blocks (h : CS κ κb σ nb nw np) (h34 : σ.1 34 = 0) (hx : σ.1 8 = x) : CY w yX8_blocks mX8_blocks [.ref (tS 4)] (PL κb p l) (fun v κ' => v = some (.int x) ∧ ∃ κ1, κ' = PL κ1 p l ∧ CS κ κ1 σ nb nw np) := by
  obtain ⟨wb, hI⟩ := h.1
  exact d_of h (k_blocks (RI_PL hI)) (by rw [hx, up34 h34])
theorem d_welds (h : CS κ κb σ nb nw np) (h34 : σ.1 34 = 0) (hx : σ.1 18 = x) : CY w yX8_welds mX8_welds [.ref (tS 4)] (PL κb p l) (fun v κ' => v = some (.int x) ∧ ∃ κ1, κ' = PL κ1 p l ∧ CS κ κ1 σ nb nw np) := by
  obtain ⟨wb, hI⟩ := h.1
  exact d_of h (k_welds (RI_PL hI)) (by rw [hx, up34 h34])
theorem d_isAfloat (h : CS κ κb σ nb nw np) (h34 : σ.1 34 = 0) (hx : σ.1 6 = x) : CY w yX8_isAfloat mX8_isAfloat [.ref (tS 4)] (PL κb p l) (fun v κ' => v = some (.int x) ∧ ∃ κ1, κ' = PL κ1 p l ∧ CS κ κ1 σ nb nw np) := by
  obtain ⟨wb, hI⟩ := h.1
  exact d_of h (k_isAfloat (RI_PL hI)) (by rw [hx, up34 h34])
theorem d_money (h : CS κ κb σ nb nw np) (h34 : σ.1 34 = 0) (hx : σ.1 7 = x) : CY w yX8_money mX8_money [.ref (tS 4)] (PL κb p l) (fun v κ' => v = some (.int x) ∧ ∃ κ1, κ' = PL κ1 p l ∧ CS κ κ1 σ nb nw np) := by
  obtain ⟨wb, hI⟩ := h.1
  exact d_of h (k_money (RI_PL hI)) (by rw [hx, up34 h34])
theorem d_moneyAnew (h : CS κ κb σ nb nw np) (h34 : σ.1 34 = 0) (hx : σ.1 7 = x) : CY w yX8_moneyAnew mX8_moneyAnew [.ref (tS 4)] (PL κb p l) (fun v κ' => v = some (.int x) ∧ ∃ κ1, κ' = PL κ1 p l ∧ CS κ κ1 σ nb nw np) := by
  obtain ⟨wb, hI⟩ := h.1
  exact d_of h (k_moneyAnew (RI_PL hI)) (by rw [hx, up34 h34])
theorem d_tons (h : CS κ κb σ nb nw np) (h34 : σ.1 34 = 0) (hx : tnsN σ nb = x) : CY w yX8_tons mX8_tons [.ref (tS 4)] (PL κb p l) (fun v κ' => v = some (.int x) ∧ ∃ κ1, κ' = PL κ1 p l ∧ CS κ κ1 σ nb nw np) := by
  obtain ⟨wb, hI⟩ := h.1
  exact d_of h (k_tons (RI_PL hI)) (by rw [hx, up34 h34])
theorem d_tonsAnew (h : CS κ κb σ nb nw np) (h34 : σ.1 34 = 0) (hx : tnsN σ nb = x) : CY w yX8_tonsAnew mX8_tonsAnew [.ref (tS 4)] (PL κb p l) (fun v κ' => v = some (.int x) ∧ ∃ κ1, κ' = PL κ1 p l ∧ CS κ κ1 σ nb nw np) := by
  obtain ⟨wb, hI⟩ := h.1
  exact d_of h (k_tonsAnew (RI_PL hI)) (by rw [hx, up34 h34])
theorem d_centre (h : CS κ κb σ nb nw np) (h34 : σ.1 34 = 0) (hx : cenN σ nb = x) : CY w yX8_centre mX8_centre [.ref (tS 4)] (PL κb p l) (fun v κ' => v = some (.int x) ∧ ∃ κ1, κ' = PL κ1 p l ∧ CS κ κ1 σ nb nw np) := by
  obtain ⟨wb, hI⟩ := h.1
  exact d_of h (k_centre (RI_PL hI)) (by rw [hx, up34 h34])
theorem d_draught {z : Int32} (h : CS κ κb σ nb nw np) (h34 : σ.1 34 = 0) (hx : draN σ nb z = x) : CY w yX8_draught mX8_draught [.ref (tS 4), .int z] (PL κb p l) (fun v κ' => v = some (.int x) ∧ ∃ κ1, κ' = PL κ1 p l ∧ CS κ κ1 σ nb nw np) := by
  obtain ⟨wb, hI⟩ := h.1
  exact d_of h (k_draught (RI_PL hI)) (by rw [hx, up34 h34])
end DS
theorem CS_34 {κ κb κ' : AH} {p : Nat} {l : LSt} {σ : MS} {c : Int32} {nb nw np : Nat} (h : CS κ κb σ nb nw np) (hre : RE (PL κb p l) κ' (upS σ 34 c)) : ∃ κ1, κ' = PL κ1 p l ∧ CS κ κ1 (upS σ 34 c) nb nw np := by
  obtain ⟨⟨wb, hI⟩, A, S⟩ := h
  obtain ⟨κ1, e, hR, hk⟩ := PL_back hre
  exact ⟨κ1, e, RE_n hR hI.1.e8 hI.1.e18 hI.1.e30 hI.1.n8 hI.1.n18 hI.1.n30, AK_of A hk, S.trans hk⟩
set_option maxRecDepth 20000 in
theorem s_isSo {w : W0} {κ κb : AH} {p : Nat} {l : LSt} {θ0 : Nat → Nat} {σ : MS} {nb nw np : Nat} (Sb : CS κ κb σ nb nw np) (h34 : σ.1 34 = 0) (C : Cp l σ nb nw np) : Y w mL_isSo θ0 (PL κ p l) (fun v κ' => PQ κ p v κ') (fun _ _ => False) 0 0 4 [some (.ref (tS 4)), some (.ref (tM 0)), some (.ref (tM 1)), some (.ref (tM 2)), some (.ref (tM 3)), some (.ref (tM 4)), some (.ref (tM 6)), some (.ref (tM 7)), some (.ref (tM 8)), some (.ref (tM 9)), none, none, none, none, none] [.int (nI nb)] (PL κb p l) := by
  obtain ⟨⟨hb40, hw60, hp10, h6⟩, D, hln⟩ := id C
  obtain ⟨CB, CW, CR, CG, z18⟩ := id D
  obtain ⟨a0, a1, a2, a3, a4, a5, a9, a10, a11, a12⟩ := id CG
  have I : IV σ nb nw np := Sb.1.choose_spec.1
  have e8 : σ.1 8 = nI nb := I.e8
  have e30 : σ.1 30 = nI np := I.e30
  have h60 : nb ≤ 60 := I.n8
  have K634 : ∀ (kc ns : Nat), kc ≤ 1000 → ns ≤ 8000 → ∀ κb, CS κ κb σ nb nw np → ∀ tn mo : Int32, tn = tnsN σ nb → mo = momN σ nb → ∀ k13 k14 : Option Value, Y w mL_isSo θ0 (PL κ p l) (fun v κ' => PQ κ p v κ') (fun _ _ => False) kc ns 634 [some (.ref (tS 4)), some (.ref (tM 0)), some (.ref (tM 1)), some (.ref (tM 2)), some (.ref (tM 3)), some (.ref (tM 4)), some (.ref (tM 6)), some (.ref (tM 7)), some (.ref (tM 8)), some (.ref (tM 9)), some (.int 1), some (.int tn), some (.int mo), k13, k14] [.int (cenN σ nb)] (PL κb p l) := by
    intro kc ns hkc hns κb Sb tn mo htn hmo k13 k14
    have e1 : tn / 2 - (cenN σ nb - 550) * tn / 1000 = draN σ nb 0 := by
      unfold draN trmN; rw [if_neg (fun z => z rfl), htn]; exact Int32.sub_eq_add_neg _ _
    have e2 : tn / 2 + (cenN σ nb - 550) * tn / 1000 = draN σ nb 1 := by unfold draN trmN; rw [if_pos (by decide), htn]
    have nb15 : kBlk σ (nI nb) 0 7 = 1 := by unfold kBlk; exact if_neg (fun z => Int32.lt_irrefl ((isB_blk h60 e8).mp z).2)
    have em15 : mTold σ (nI nb) 0 = (0, upS σ 34 1) := by unfold mTold; rw [nb15]; rfl
    refine runL_go (κ := κb) (p := p) rkL_isSo noCut 300 rfl ?_
    refine And.intro (by decide) ?_
    refine And.intro (fun c653 => False.elim (by first | exact c653 (by decide) | exact absurd (by decide) c653 | exact absurd c653 (by decide))) (fun c653 => ?_)
    refine pL_isSo_657 rfl (Nat.ble_eq_true_of_le (by omega)) (Nat.ble_eq_true_of_le (by omega)) (Sb.1.choose_spec.2.1.1.t4) (d_tons Sb h34 htn.symm) (fun v κ1 hq657 ho657 hk657 => ?_)
    obtain ⟨rfl, κ657, rfl, S657⟩ := hq657
    refine runL_ok rkL_isSo noCut 300 _ _ _ _ _ _ ?_
    refine And.intro (fun c662 => False.elim (by first | exact c662 rfl | exact absurd rfl c662 | exact absurd c662 rfl)) (fun c662 => ?_)
    refine pL_isSo_666 rfl (Nat.ble_eq_true_of_le (by omega)) (Nat.ble_eq_true_of_le (by omega)) (S657.1.choose_spec.2.1.1.t4) (d_tonsAnew S657 h34 htn.symm) (fun v κ1 hq666 ho666 hk666 => ?_)
    obtain ⟨rfl, κ666, rfl, S666⟩ := hq666
    refine runL_ok rkL_isSo noCut 300 _ _ _ _ _ _ ?_
    refine And.intro (fun c671 => False.elim (by first | exact c671 rfl | exact absurd rfl c671 | exact absurd c671 rfl)) (fun c671 => ?_)
    refine pL_isSo_675 rfl (Nat.ble_eq_true_of_le (by omega)) (Nat.ble_eq_true_of_le (by omega)) (S666.1.choose_spec.2.1.1.t4) (d_centre S666 h34 rfl) (fun v κ1 hq675 ho675 hk675 => ?_)
    obtain ⟨rfl, κ675, rfl, S675⟩ := hq675
    refine runL_ok rkL_isSo noCut 300 _ _ _ _ _ _ ?_
    refine And.intro (fun c680 => False.elim (by first | exact c680 rfl | exact absurd rfl c680 | exact absurd c680 rfl)) (fun c680 => ?_)
    refine pL_isSo_685 rfl (Nat.ble_eq_true_of_le (by omega)) (Nat.ble_eq_true_of_le (by omega)) (S675.1.choose_spec.2.1.1.t4) (d_draught S675 h34 e1.symm) (fun v κ1 hq685 ho685 hk685 => ?_)
    obtain ⟨rfl, κ685, rfl, S685⟩ := hq685
    refine runL_ok rkL_isSo noCut 300 _ _ _ _ _ _ ?_
    refine And.intro (by decide) ?_
    refine And.intro (fun c695 => False.elim (by first | exact c695 rfl | exact absurd rfl c695 | exact absurd c695 rfl)) (fun c695 => ?_)
    refine pL_isSo_700 rfl (Nat.ble_eq_true_of_le (by omega)) (Nat.ble_eq_true_of_le (by omega)) (S685.1.choose_spec.2.1.1.t4) (d_draught S685 h34 e2.symm) (fun v κ1 hq700 ho700 hk700 => ?_)
    obtain ⟨rfl, κ700, rfl, S700⟩ := hq700
    refine runL_ok rkL_isSo noCut 300 _ _ _ _ _ _ ?_
    refine And.intro (by decide) ?_
    refine And.intro (fun c710 => False.elim (by first | exact c710 rfl | exact absurd rfl c710 | exact absurd c710 rfl)) (fun c710 => ?_)
    refine ⟨9, 10, S700.2.1.ld (by decide) (by decide) rfl, ?_⟩
    refine pL_isSo_726 rfl (Nat.ble_eq_true_of_le (by omega)) (Nat.ble_eq_true_of_le (by omega)) (w_told (RI_PL S700.1.choose_spec)) (fun v κ1 hq726 ho726 hk726 => ?_)
    obtain ⟨rfl, hre⟩ := hq726
    rw [a10, em15] at hre
    obtain ⟨κ726, rfl, S726⟩ := CS_34 S700 hre
    refine runL_ok rkL_isSo noCut 300 _ _ _ _ _ _ ?_
    refine pL_isSo_729 ?_
    refine runL_ok rkL_isSo noCut 300 _ _ _ _ _ _ ?_
    refine And.intro (fun c731 => False.elim (by first | exact c731 (show dv (-3000000) (-2000000) 0 (mTold σ (l 9 10) 0) = -3000000 by rw [a10, em15]; rfl) | exact absurd (show dv (-3000000) (-2000000) 0 (mTold σ (l 9 10) 0) = -3000000 by rw [a10, em15]; rfl) c731 | exact absurd c731 (show dv (-3000000) (-2000000) 0 (mTold σ (l 9 10) 0) = -3000000 by rw [a10, em15]; rfl))) (fun c731 => ?_)
    refine ⟨9, 11, S726.2.1.ld (by decide) (by decide) rfl, ?_⟩
    refine pL_isSo_747 rfl (Nat.ble_eq_true_of_le (by omega)) (Nat.ble_eq_true_of_le (by omega)) (w_weld (RI_PL S726.1.choose_spec)) (fun v κ1 hq747 ho747 hk747 => ?_)
    obtain ⟨rfl, hre⟩ := hq747
    have em16 : mWeld (upS σ 34 1) (l 9 11) 0 = (0, upS (upS σ 34 1) 34 1) := by
      have k : kWld (upS σ 34 1) (l 9 11) 0 = 1 := by unfold kWld; rw [a11]; exact if_neg (fun z => Int32.lt_irrefl ((isB_wld I.n18 (show (upS σ 34 1).1 18 = nI nw from I.e18)).mp z).2)
      unfold mWeld; rw [k]; rfl
    rw [em16] at hre ⊢
    obtain ⟨κ747, rfl, S747⟩ := CS_34 S726 hre
    refine runL_ok rkL_isSo noCut 300 _ _ _ _ _ _ ?_
    refine pL_isSo_750 ?_
    refine runL_ok rkL_isSo noCut 300 _ _ _ _ _ _ ?_
    refine And.intro (fun c752 => False.elim (by first | exact c752 rfl | exact absurd rfl c752 | exact absurd c752 rfl)) (fun c752 => ?_)
    refine And.intro ⟨Nat.le_trans (show _ ≤ 2400 by omega) (Nat.le_of_ble_eq_true rfl), Nat.le_trans (show _ ≤ 16000 by omega) (Nat.le_of_ble_eq_true rfl)⟩ ?_
    refine And.intro (by first | exact Or.inl rfl | exact Or.inr rfl) ?_
    exact ⟨rfl, κ747, l, upS (upS σ 34 1) 34 1, nb, nw, np, S747.1.choose, rfl, S747.1.choose_spec, Cp_34 (Cp_34 C), S747.2.2⟩
  have K617 : ∀ (kc ns : Nat), kc ≤ 1000 → ns ≤ 8000 → ∀ κb, CS κ κb σ nb nw np → ∀ tn mo : Int32, tn = tnsN σ nb → mo = momN σ nb → ∀ k13 k14 : Option Value, Y w mL_isSo θ0 (PL κ p l) (fun v κ' => PQ κ p v κ') (fun _ _ => False) kc ns 617 [some (.ref (tS 4)), some (.ref (tM 0)), some (.ref (tM 1)), some (.ref (tM 2)), some (.ref (tM 3)), some (.ref (tM 4)), some (.ref (tM 6)), some (.ref (tM 7)), some (.ref (tM 8)), some (.ref (tM 9)), some (.int 1), some (.int tn), some (.int mo), k13, k14] [] (PL κb p l) := by
    intro kc ns hkc hns κb Sb tn mo htn hmo k13 k14
    refine runL_go (κ := κb) (p := p) rkL_isSo (fun p => Nat.beq p 634) 300 rfl ?_
    refine And.intro (fun c619 => ?_) (fun c619 => ?_)
    · skip
      refine And.intro c619 ?_
      have Z := K634 kc ns hkc hns κb Sb tn mo htn hmo k13 k14
      rw [show cenN σ nb = ((50 * mo) / tn) by unfold cenN; rw [← htn, ← hmo]; first | exact if_pos c619 | exact if_neg c619] at Z
      exact Z
    · skip
      have Z := K634 kc ns hkc hns κb Sb tn mo htn hmo k13 k14
      rw [show cenN σ nb = 0 by unfold cenN; rw [← htn, ← hmo]; first | exact if_pos c619 | exact if_neg c619] at Z
      exact Z
  have L3 : ∀ m k : Nat, m + k = 36 → ∀ (kc ns : Nat), kc ≤ 721 + 6 * k → ns ≤ 4300 + 40 * k → ∀ κb, CS κ κb σ nb nw np → ∀ (tn mo : Int32) (y14 : Option Value), tn = sm (fTB σ) nb + sm (fTC σ) k → mo = sm (fMB σ) nb + sm (fMC σ) k → Y w mL_isSo θ0 (PL κ p l) (fun v κ' => PQ κ p v κ') (fun _ _ => False) kc ns 443 [some (.ref (tS 4)), some (.ref (tM 0)), some (.ref (tM 1)), some (.ref (tM 2)), some (.ref (tM 3)), some (.ref (tM 4)), some (.ref (tM 6)), some (.ref (tM 7)), some (.ref (tM 8)), some (.ref (tM 9)), some (.int 1), some (.int tn), some (.int mo), some (.int (nI k)), y14] [] (PL κb p l) := by
    intro m
    induction m with
    | zero =>
      intro k hk kc ns hkc hns κb Sb tn mo y14 htn hmo
      have e : k = 36 := by omega
      subst e
      refine runL_go (κ := κb) (p := p) rkL_isSo (fun p => Nat.beq p 617) 300 rfl ?_
      exact And.intro (fun _ => K617 kc ns (by omega) (by omega) κb Sb tn mo htn hmo _ _) (fun c => absurd (show (36 : Int32) ≤ nI 36 by decide) c)
    | succ m ih =>
      intro k hk kc ns hkc hns κb Sb tn mo y14 htn hmo
      have hk36 : k < 36 := by omega
      obtain ⟨f7, r⟩ := CR k hk36
      have x0 : tCell σ (nI k) (nI 0) = l 7 k := by unfold tCell; rw [if_pos (by decide), nI_clamp (by omega)]; exact f7.symm
      have x1 : tCell σ (nI k) (nI 1) = l 8 k - l 8 k / 2 * 2 := by unfold tCell; rw [if_neg (by decide), if_pos (by decide), nI_clamp (by omega)]; exact r.p01.symm
      have x2 : tCell σ (nI k) (nI 2) = l 8 k / 128 := by unfold tCell; rw [if_neg (by decide), if_neg (by decide), if_pos (by decide), nI_clamp (by omega)]; exact r.thg.symm
      have x3 : tCell σ (nI k) (nI 3) = l 8 k / 32 - l 8 k / 32 / 4 * 4 := by unfold tCell; rw [if_neg (by decide), if_neg (by decide), if_neg (by decide), if_pos (by decide), nI_clamp (by omega)]; exact r.pip.symm
      have x4 : tCell σ (nI k) (nI 4) = l 8 k / 2 - l 8 k / 2 / 16 * 16 := by unfold tCell; rw [if_neg (by decide), if_neg (by decide), if_neg (by decide), if_neg (by decide), nI_clamp (by omega)]; exact r.hol.symm
      have i1 : l 8 k / 128 + (l 8 k / 32 - l 8 k / 32 / 4 * 4) = fTC σ k := by rw [r.thg, r.pip]; rfl
      have i2 : 2 * (nI k - nI k / 12 * 12) * (l 8 k / 128 + (l 8 k / 32 - l 8 k / 32 / 4 * 4)) = fMC σ k := by
        rw [i1, show nI k - nI k / 12 * 12 = nI (k % 12) from rm_nI (d := 12) (by omega) (by decide) (by decide)]
        show _ = (σ.2 27 k + σ.2 28 k) * 2 * nI (k % 12)
        show 2 * nI (k % 12) * (σ.2 27 k + σ.2 28 k) = _
        grind
      refine runL_go (κ := κb) (p := p) rkL_isSo (fun p => Nat.beq p 443 || Nat.beq p 617) 300 rfl ?_
      refine And.intro (fun c447 => False.elim (by first | exact c447 (fun z => by have := (nI_leI (a := 36) (by decide) (by omega)).mp z; omega) | exact absurd (fun z => by have := (nI_leI (a := 36) (by decide) (by omega)).mp z; omega) c447 | exact absurd c447 (fun z => by have := (nI_leI (a := 36) (by decide) (by omega)).mp z; omega))) (fun c447 => ?_)
      refine And.intro (fun c452 => False.elim (by first | exact c452 (by decide) | exact absurd (by decide) c452 | exact absurd c452 (by decide))) (fun c452 => ?_)
      refine pL_isSo_459 rfl (Nat.ble_eq_true_of_le (by omega)) (Nat.ble_eq_true_of_le (by omega)) (Sb.1.choose_spec.2.1.1.t4) (d_cell (q := 0) Sb h34 hk36 (by decide) x0) (fun v κ1 hq459 ho459 hk459 => ?_)
      obtain ⟨rfl, κ459, rfl, S459⟩ := hq459
      refine runL_ok rkL_isSo (fun p => Nat.beq p 443 || Nat.beq p 617) 300 _ _ _ _ _ _ ?_
      refine ⟨7, k, S459.2.1.ld (by decide) (show k < 36 by omega) rfl, ?_⟩
      refine And.intro (fun c467 => False.elim (by first | exact c467 rfl | exact absurd rfl c467 | exact absurd c467 rfl)) (fun c467 => ?_)
      refine pL_isSo_474 rfl (Nat.ble_eq_true_of_le (by omega)) (Nat.ble_eq_true_of_le (by omega)) (S459.1.choose_spec.2.1.1.t4) (d_cell (q := 1) S459 h34 hk36 (by decide) x1) (fun v κ1 hq474 ho474 hk474 => ?_)
      obtain ⟨rfl, κ474, rfl, S474⟩ := hq474
      refine runL_ok rkL_isSo (fun p => Nat.beq p 443 || Nat.beq p 617) 300 _ _ _ _ _ _ ?_
      refine ⟨8, k, S474.2.1.ld (by decide) (show k < 37 by omega) rfl, ?_⟩
      refine And.intro (by decide) ?_
      refine And.intro (fun c484 => False.elim (by first | exact c484 rfl | exact absurd rfl c484 | exact absurd c484 rfl)) (fun c484 => ?_)
      refine pL_isSo_491 rfl (Nat.ble_eq_true_of_le (by omega)) (Nat.ble_eq_true_of_le (by omega)) (S474.1.choose_spec.2.1.1.t4) (d_cell (q := 2) S474 h34 hk36 (by decide) x2) (fun v κ1 hq491 ho491 hk491 => ?_)
      obtain ⟨rfl, κ491, rfl, S491⟩ := hq491
      refine runL_ok rkL_isSo (fun p => Nat.beq p 443 || Nat.beq p 617) 300 _ _ _ _ _ _ ?_
      refine ⟨8, k, S491.2.1.ld (by decide) (show k < 37 by omega) rfl, ?_⟩
      refine And.intro (by decide) ?_
      refine And.intro (fun c503 => False.elim (by first | exact c503 rfl | exact absurd rfl c503 | exact absurd c503 rfl)) (fun c503 => ?_)
      refine pL_isSo_510 rfl (Nat.ble_eq_true_of_le (by omega)) (Nat.ble_eq_true_of_le (by omega)) (S491.1.choose_spec.2.1.1.t4) (d_cell (q := 3) S491 h34 hk36 (by decide) x3) (fun v κ1 hq510 ho510 hk510 => ?_)
      obtain ⟨rfl, κ510, rfl, S510⟩ := hq510
      refine runL_ok rkL_isSo (fun p => Nat.beq p 443 || Nat.beq p 617) 300 _ _ _ _ _ _ ?_
      refine ⟨8, k, S510.2.1.ld (by decide) (show k < 37 by omega) rfl, ?_⟩
      refine And.intro (by decide) ?_
      refine And.intro (by decide) ?_
      refine And.intro (fun c523 => False.elim (by first | exact c523 rfl | exact absurd rfl c523 | exact absurd c523 rfl)) (fun c523 => ?_)
      refine pL_isSo_530 rfl (Nat.ble_eq_true_of_le (by omega)) (Nat.ble_eq_true_of_le (by omega)) (S510.1.choose_spec.2.1.1.t4) (d_cell (q := 4) S510 h34 hk36 (by decide) x4) (fun v κ1 hq530 ho530 hk530 => ?_)
      obtain ⟨rfl, κ530, rfl, S530⟩ := hq530
      refine runL_ok rkL_isSo (fun p => Nat.beq p 443 || Nat.beq p 617) 300 _ _ _ _ _ _ ?_
      refine ⟨8, k, S530.2.1.ld (by decide) (show k < 37 by omega) rfl, ?_⟩
      refine And.intro (by decide) ?_
      refine And.intro (by decide) ?_
      refine And.intro (fun c543 => False.elim (by first | exact c543 rfl | exact absurd rfl c543 | exact absurd c543 rfl)) (fun c543 => ?_)
      refine ⟨8, k, S530.2.1.ld (by decide) (show k < 37 by omega) rfl, ?_⟩
      refine And.intro (by decide) ?_
      refine ⟨8, k, S530.2.1.ld (by decide) (show k < 37 by omega) rfl, ?_⟩
      refine And.intro (by decide) ?_
      refine And.intro (by decide) ?_
      refine And.intro (by decide) ?_
      refine ⟨8, k, S530.2.1.ld (by decide) (show k < 37 by omega) rfl, ?_⟩
      refine And.intro (by decide) ?_
      refine ⟨8, k, S530.2.1.ld (by decide) (show k < 37 by omega) rfl, ?_⟩
      refine And.intro (by decide) ?_
      refine And.intro (by decide) ?_
      have Z := ih (k + 1) (by omega) (kc + 1 + 1 + 1 + 1 + 1) (ns + 6 + 6 + 6 + 6 + 6) (by omega) (by omega) _ S530 _ _ y14 (show tn + (l 8 k / 128 + (l 8 k / 32 - l 8 k / 32 / 4 * 4)) = _ by rw [htn, i1, Int32.add_assoc]; rfl) (show mo + 2 * (nI k - nI k / 12 * 12) * (l 8 k / 128 + (l 8 k / 32 - l 8 k / 32 / 4 * 4)) = _ by rw [hmo, i2, Int32.add_assoc]; rfl)
      rw [← nI_1 k] at Z
      exact Z
  have L2 : ∀ m k : Nat, m + k = nw → ∀ (kc ns : Nat), kc ≤ 420 + 5 * k → ns ≤ 2400 + 30 * k → ∀ κb, CS κ κb σ nb nw np → ∀ (tn mo : Int32) (y14 : Option Value), tn = sm (fTB σ) nb → mo = sm (fMB σ) nb → Y w mL_isSo θ0 (PL κ p l) (fun v κ' => PQ κ p v κ') (fun _ _ => False) kc ns 333 [some (.ref (tS 4)), some (.ref (tM 0)), some (.ref (tM 1)), some (.ref (tM 2)), some (.ref (tM 3)), some (.ref (tM 4)), some (.ref (tM 6)), some (.ref (tM 7)), some (.ref (tM 8)), some (.ref (tM 9)), some (.int 1), some (.int tn), some (.int mo), some (.int (nI k)), y14] [] (PL κb p l) := by
    intro m
    induction m with
    | zero =>
      intro k hk kc ns hkc hns κb Sb tn mo y14 htn hmo
      have e : k = nw := by omega
      subst e
      refine runL_go (κ := κb) (p := p) rkL_isSo (fun p => Nat.beq p 443) 300 rfl ?_
      refine ⟨9, 11, Sb.2.1.ld (by decide) (by decide) rfl, ?_⟩
      rw [a11]
      exact And.intro (fun _ => L3 36 0 rfl kc ns (by omega) (by omega) κb Sb tn mo y14 (htn.trans (Int32.add_zero _).symm) (hmo.trans (Int32.add_zero _).symm)) (fun c => absurd (Int32.le_refl _) c)
    | succ m ih =>
      intro k hk kc ns hkc hns κb Sb tn mo y14 htn hmo
      have hkw : k < nw := by omega
      obtain ⟨s, d, r, f, e, b, h1, h2, h3, h4, h5, h6b, h7, h8, h9, h10, h11, h12, h13, h14⟩ := CW k hkw
      have x0 : tWld σ (nI k) (nI 0) = l 6 k - l 6 k / 4 * 4 := by unfold tWld; rw [if_pos (by decide), nI_clamp (by omega), h14, eW_s h1 h2 h3 h4 h5 (by omega)]; exact h8
      have x1 : tWld σ (nI k) (nI 1) = l 6 k / 8 - l 6 k / 8 / 4 * 4 := by unfold tWld; rw [if_neg (by decide), if_pos (by decide), nI_clamp (by omega), h14, eW_r h1 h2 h3 h4 h5 (by omega)]; exact h10
      have x2 : tWld σ (nI k) (nI 2) = l 6 k / 32 - l 6 k / 32 / 16 * 16 := by unfold tWld; rw [if_neg (by decide), if_neg (by decide), if_pos (by decide), nI_clamp (by omega), h14, eW_f h1 h2 h3 h4 h5 (by omega)]; exact h11
      have x3 : tWld σ (nI k) (nI 3) = l 6 k / 512 - l 6 k / 512 / 4 * 4 := by unfold tWld; rw [if_neg (by decide), if_neg (by decide), if_neg (by decide), nI_clamp (by omega), h14, eW_e h1 h2 h3 h4 h5 (by omega)]; exact h12
      refine runL_go (κ := κb) (p := p) rkL_isSo (fun p => Nat.beq p 333 || Nat.beq p 440) 300 rfl ?_
      refine ⟨9, 11, Sb.2.1.ld (by decide) (by decide) rfl, ?_⟩
      refine And.intro (fun c340 => False.elim (by first | exact c340 (by rw [a11]; exact fun z => by have := (nI_leI (by omega) (by omega)).mp z; omega) | exact absurd (by rw [a11]; exact fun z => by have := (nI_leI (by omega) (by omega)).mp z; omega) c340 | exact absurd c340 (by rw [a11]; exact fun z => by have := (nI_leI (by omega) (by omega)).mp z; omega))) (fun c340 => ?_)
      refine And.intro (fun c345 => False.elim (by first | exact c345 (by decide) | exact absurd (by decide) c345 | exact absurd c345 (by decide))) (fun c345 => ?_)
      refine pL_isSo_352 rfl (Nat.ble_eq_true_of_le (by omega)) (Nat.ble_eq_true_of_le (by omega)) (Sb.1.choose_spec.2.1.1.t4) (d_weld (q := 0) Sb h34 hkw (by decide) x0) (fun v κ1 hq352 ho352 hk352 => ?_)
      obtain ⟨rfl, κ352, rfl, S352⟩ := hq352
      refine runL_ok rkL_isSo (fun p => Nat.beq p 333 || Nat.beq p 440) 300 _ _ _ _ _ _ ?_
      refine ⟨6, k, S352.2.1.ld (by decide) (show k < 61 by omega) rfl, ?_⟩
      refine And.intro (by decide) ?_
      refine And.intro (fun c362 => False.elim (by first | exact c362 rfl | exact absurd rfl c362 | exact absurd c362 rfl)) (fun c362 => ?_)
      refine pL_isSo_369 rfl (Nat.ble_eq_true_of_le (by omega)) (Nat.ble_eq_true_of_le (by omega)) (S352.1.choose_spec.2.1.1.t4) (d_weld (q := 1) S352 h34 hkw (by decide) x1) (fun v κ1 hq369 ho369 hk369 => ?_)
      obtain ⟨rfl, κ369, rfl, S369⟩ := hq369
      refine runL_ok rkL_isSo (fun p => Nat.beq p 333 || Nat.beq p 440) 300 _ _ _ _ _ _ ?_
      refine ⟨6, k, S369.2.1.ld (by decide) (show k < 61 by omega) rfl, ?_⟩
      refine And.intro (by decide) ?_
      refine And.intro (by decide) ?_
      refine And.intro (fun c382 => False.elim (by first | exact c382 rfl | exact absurd rfl c382 | exact absurd c382 rfl)) (fun c382 => ?_)
      refine pL_isSo_389 rfl (Nat.ble_eq_true_of_le (by omega)) (Nat.ble_eq_true_of_le (by omega)) (S369.1.choose_spec.2.1.1.t4) (d_weld (q := 2) S369 h34 hkw (by decide) x2) (fun v κ1 hq389 ho389 hk389 => ?_)
      obtain ⟨rfl, κ389, rfl, S389⟩ := hq389
      refine runL_ok rkL_isSo (fun p => Nat.beq p 333 || Nat.beq p 440) 300 _ _ _ _ _ _ ?_
      refine ⟨6, k, S389.2.1.ld (by decide) (show k < 61 by omega) rfl, ?_⟩
      refine And.intro (by decide) ?_
      refine And.intro (by decide) ?_
      refine And.intro (fun c403 => False.elim (by first | exact c403 rfl | exact absurd rfl c403 | exact absurd c403 rfl)) (fun c403 => ?_)
      refine pL_isSo_410 rfl (Nat.ble_eq_true_of_le (by omega)) (Nat.ble_eq_true_of_le (by omega)) (S389.1.choose_spec.2.1.1.t4) (d_weld (q := 3) S389 h34 hkw (by decide) x3) (fun v κ1 hq410 ho410 hk410 => ?_)
      obtain ⟨rfl, κ410, rfl, S410⟩ := hq410
      refine runL_ok rkL_isSo (fun p => Nat.beq p 333 || Nat.beq p 440) 300 _ _ _ _ _ _ ?_
      refine ⟨6, k, S410.2.1.ld (by decide) (show k < 61 by omega) rfl, ?_⟩
      refine And.intro (by decide) ?_
      refine And.intro (by decide) ?_
      refine And.intro (fun c424 => False.elim (by first | exact c424 rfl | exact absurd rfl c424 | exact absurd c424 rfl)) (fun c424 => ?_)
      have Z := ih (k + 1) (by omega) (kc + 1 + 1 + 1 + 1) (ns + 6 + 6 + 6 + 6) (by omega) (by omega) _ S410 tn mo y14 htn hmo
      rw [← nI_1 k] at Z
      exact Z
  have L1 : ∀ m k : Nat, m + k = nb → ∀ (kc ns : Nat), kc ≤ 0 + 10 * k → ns ≤ 0 + 60 * k → ∀ κb, CS κ κb σ nb nw np → ∀ (tn mo : Int32) (y14 : Option Value), tn = sm (fTB σ) k → mo = sm (fMB σ) k → Y w mL_isSo θ0 (PL κ p l) (fun v κ' => PQ κ p v κ') (fun _ _ => False) kc ns 71 [some (.ref (tS 4)), some (.ref (tM 0)), some (.ref (tM 1)), some (.ref (tM 2)), some (.ref (tM 3)), some (.ref (tM 4)), some (.ref (tM 6)), some (.ref (tM 7)), some (.ref (tM 8)), some (.ref (tM 9)), some (.int 1), some (.int tn), some (.int mo), some (.int (nI k)), y14] [] (PL κb p l) := by
    intro m
    induction m with
    | zero =>
      intro k hk kc ns hkc hns κb Sb tn mo y14 htn hmo
      have e : k = nb := by omega
      subst e
      refine runL_go (κ := κb) (p := p) rkL_isSo (fun p => Nat.beq p 333) 300 rfl ?_
      refine ⟨9, 10, Sb.2.1.ld (by decide) (by decide) rfl, ?_⟩
      rw [a10]
      exact And.intro (fun _ => L2 nw 0 (by omega) kc ns (by omega) (by omega) κb Sb tn mo y14 htn hmo) (fun c => absurd (Int32.le_refl _) c)
    | succ m ih =>
      intro k hk kc ns hkc hns κb Sb tn mo y14 htn hmo
      have hkb : k < nb := by omega
      obtain ⟨⟨f, gg, e, s, u, h1, h2x, h3, h4, h5, h6x, h7, h8, h9, h10, h11, h12, h13⟩, q1, q2, q3, q4, q5⟩ := CB k hkb
      have s1024 : l 0 k / 1024 = σ.2 9 k := by rw [h13, eA_s h1 h2x h3 h4, h11]
      have kf : l 0 k - l 0 k / 16 * 16 = nI f := by rw [h13]; exact eA_f h1 h2x h3 h4
      have kg : l 0 k / 16 - l 0 k / 16 / 16 * 16 = nI gg := by rw [h13]; exact eA_g h1 h2x h3 h4
      have x0 : tBlk σ (nI k) (nI 0) = l 0 k / 1024 := by unfold tBlk; rw [if_pos (by decide), nI_clamp (by omega)]; exact s1024.symm
      have x1 : tBlk σ (nI k) (nI 1) = l 0 k - l 0 k / 16 * 16 := by unfold tBlk; rw [if_neg (by decide), if_pos (by decide), nI_clamp (by omega)]; rw [kf]; exact h8
      have x2 : tBlk σ (nI k) (nI 2) = l 0 k / 16 - l 0 k / 16 / 16 * 16 := by unfold tBlk; rw [if_neg (by decide), if_neg (by decide), if_pos (by decide), nI_clamp (by omega)]; rw [kg]; exact h9
      have x3 : tBlk σ (nI k) (nI 3) = l 0 k / 256 - l 0 k / 256 / 4 * 4 := by unfold tBlk; rw [if_neg (by decide), if_neg (by decide), if_neg (by decide), if_pos (by decide), nI_clamp (by omega)]; rw [h13, eA_e h1 h2x h3 h4]; exact h10
      have x4 : tBlk σ (nI k) (nI 4) = l 1 k := by unfold tBlk; rw [if_neg (by decide), if_neg (by decide), if_neg (by decide), if_neg (by decide), if_pos (by decide), nI_clamp (by omega)]; exact q1.symm
      have x5 : tBlk σ (nI k) (nI 5) = l 2 k := by unfold tBlk; rw [if_neg (by decide), if_neg (by decide), if_neg (by decide), if_neg (by decide), if_neg (by decide), if_pos (by decide), nI_clamp (by omega)]; exact q2.symm
      have x6 : tBlk σ (nI k) (nI 6) = l 3 k := by unfold tBlk; rw [if_neg (by decide), if_neg (by decide), if_neg (by decide), if_neg (by decide), if_neg (by decide), if_neg (by decide), if_pos (by decide), nI_clamp (by omega)]; exact q3.symm
      by_cases h2 : σ.2 9 k = 2
      · skip
        have hh : l 0 k / 1024 = 2 := by rw [s1024]; exact h2
        have x7 : tBlk σ (nI k) (nI 7) = l 4 k := by unfold tBlk; rw [if_neg (by decide), if_neg (by decide), if_neg (by decide), if_neg (by decide), if_neg (by decide), if_neg (by decide), if_neg (by decide), nI_clamp (by omega), if_pos h2]; exact (q4 h2).symm
        refine runL_go (κ := κb) (p := p) rkL_isSo (fun p => Nat.beq p 71 || Nat.beq p 330) 300 rfl ?_
        refine ⟨9, 10, Sb.2.1.ld (by decide) (by decide) rfl, ?_⟩
        refine And.intro (fun c78 => False.elim (by first | exact c78 (by rw [a10]; exact fun z => by have := (nI_leI (by omega) (by omega)).mp z; omega) | exact absurd (by rw [a10]; exact fun z => by have := (nI_leI (by omega) (by omega)).mp z; omega) c78 | exact absurd c78 (by rw [a10]; exact fun z => by have := (nI_leI (by omega) (by omega)).mp z; omega))) (fun c78 => ?_)
        refine And.intro (fun c83 => False.elim (by first | exact c83 (by decide) | exact absurd (by decide) c83 | exact absurd c83 (by decide))) (fun c83 => ?_)
        refine ⟨0, k, Sb.2.1.ld (by decide) (show k < 40 by omega) rfl, ?_⟩
        refine And.intro (by decide) ?_
        refine pL_isSo_100 rfl (Nat.ble_eq_true_of_le (by omega)) (Nat.ble_eq_true_of_le (by omega)) (Sb.1.choose_spec.2.1.1.t4) (d_told (q := 0) Sb h34 hkb (by decide) x0) (fun v κ1 hq100 ho100 hk100 => ?_)
        obtain ⟨rfl, κ100, rfl, S100⟩ := hq100
        refine runL_ok rkL_isSo (fun p => Nat.beq p 71 || Nat.beq p 330) 300 _ _ _ _ _ _ ?_
        refine And.intro (fun c105 => False.elim (by first | exact c105 rfl | exact absurd rfl c105 | exact absurd c105 rfl)) (fun c105 => ?_)
        refine pL_isSo_112 rfl (Nat.ble_eq_true_of_le (by omega)) (Nat.ble_eq_true_of_le (by omega)) (S100.1.choose_spec.2.1.1.t4) (d_told (q := 1) S100 h34 hkb (by decide) x1) (fun v κ1 hq112 ho112 hk112 => ?_)
        obtain ⟨rfl, κ112, rfl, S112⟩ := hq112
        refine runL_ok rkL_isSo (fun p => Nat.beq p 71 || Nat.beq p 330) 300 _ _ _ _ _ _ ?_
        refine ⟨0, k, S112.2.1.ld (by decide) (show k < 40 by omega) rfl, ?_⟩
        refine And.intro (by decide) ?_
        refine And.intro (fun c122 => False.elim (by first | exact c122 rfl | exact absurd rfl c122 | exact absurd c122 rfl)) (fun c122 => ?_)
        refine pL_isSo_129 rfl (Nat.ble_eq_true_of_le (by omega)) (Nat.ble_eq_true_of_le (by omega)) (S112.1.choose_spec.2.1.1.t4) (d_told (q := 2) S112 h34 hkb (by decide) x2) (fun v κ1 hq129 ho129 hk129 => ?_)
        obtain ⟨rfl, κ129, rfl, S129⟩ := hq129
        refine runL_ok rkL_isSo (fun p => Nat.beq p 71 || Nat.beq p 330) 300 _ _ _ _ _ _ ?_
        refine ⟨0, k, S129.2.1.ld (by decide) (show k < 40 by omega) rfl, ?_⟩
        refine And.intro (by decide) ?_
        refine And.intro (by decide) ?_
        refine And.intro (fun c142 => False.elim (by first | exact c142 rfl | exact absurd rfl c142 | exact absurd c142 rfl)) (fun c142 => ?_)
        refine pL_isSo_149 rfl (Nat.ble_eq_true_of_le (by omega)) (Nat.ble_eq_true_of_le (by omega)) (S129.1.choose_spec.2.1.1.t4) (d_told (q := 3) S129 h34 hkb (by decide) x3) (fun v κ1 hq149 ho149 hk149 => ?_)
        obtain ⟨rfl, κ149, rfl, S149⟩ := hq149
        refine runL_ok rkL_isSo (fun p => Nat.beq p 71 || Nat.beq p 330) 300 _ _ _ _ _ _ ?_
        refine ⟨0, k, S149.2.1.ld (by decide) (show k < 40 by omega) rfl, ?_⟩
        refine And.intro (by decide) ?_
        refine And.intro (by decide) ?_
        refine And.intro (fun c162 => False.elim (by first | exact c162 rfl | exact absurd rfl c162 | exact absurd c162 rfl)) (fun c162 => ?_)
        refine pL_isSo_169 rfl (Nat.ble_eq_true_of_le (by omega)) (Nat.ble_eq_true_of_le (by omega)) (S149.1.choose_spec.2.1.1.t4) (d_told (q := 4) S149 h34 hkb (by decide) x4) (fun v κ1 hq169 ho169 hk169 => ?_)
        obtain ⟨rfl, κ169, rfl, S169⟩ := hq169
        refine runL_ok rkL_isSo (fun p => Nat.beq p 71 || Nat.beq p 330) 300 _ _ _ _ _ _ ?_
        refine ⟨1, k, S169.2.1.ld (by decide) (show k < 40 by omega) rfl, ?_⟩
        refine And.intro (fun c176 => False.elim (by first | exact c176 rfl | exact absurd rfl c176 | exact absurd c176 rfl)) (fun c176 => ?_)
        refine pL_isSo_183 rfl (Nat.ble_eq_true_of_le (by omega)) (Nat.ble_eq_true_of_le (by omega)) (S169.1.choose_spec.2.1.1.t4) (d_told (q := 5) S169 h34 hkb (by decide) x5) (fun v κ1 hq183 ho183 hk183 => ?_)
        obtain ⟨rfl, κ183, rfl, S183⟩ := hq183
        refine runL_ok rkL_isSo (fun p => Nat.beq p 71 || Nat.beq p 330) 300 _ _ _ _ _ _ ?_
        refine ⟨2, k, S183.2.1.ld (by decide) (show k < 40 by omega) rfl, ?_⟩
        refine And.intro (fun c190 => False.elim (by first | exact c190 rfl | exact absurd rfl c190 | exact absurd c190 rfl)) (fun c190 => ?_)
        refine pL_isSo_198 rfl (Nat.ble_eq_true_of_le (by omega)) (Nat.ble_eq_true_of_le (by omega)) (S183.1.choose_spec.2.1.1.t4) (d_told (q := 6) S183 h34 hkb (by decide) x6) (fun v κ1 hq198 ho198 hk198 => ?_)
        obtain ⟨rfl, κ198, rfl, S198⟩ := hq198
        refine runL_ok rkL_isSo (fun p => Nat.beq p 71 || Nat.beq p 330) 300 _ _ _ _ _ _ ?_
        refine ⟨3, k, S198.2.1.ld (by decide) (show k < 40 by omega) rfl, ?_⟩
        refine And.intro (fun c206 => False.elim (by first | exact c206 rfl | exact absurd rfl c206 | exact absurd c206 rfl)) (fun c206 => ?_)
        refine pL_isSo_214 rfl (Nat.ble_eq_true_of_le (by omega)) (Nat.ble_eq_true_of_le (by omega)) (S198.1.choose_spec.2.1.1.t4) (d_told (q := 7) S198 h34 hkb (by decide) x7) (fun v κ1 hq214 ho214 hk214 => ?_)
        obtain ⟨rfl, κ214, rfl, S214⟩ := hq214
        refine runL_ok rkL_isSo (fun p => Nat.beq p 71 || Nat.beq p 330) 300 _ _ _ _ _ _ ?_
        refine And.intro (fun c220 => False.elim (by first | exact c220 hh | exact absurd hh c220 | exact absurd c220 hh)) (fun c220 => ?_)
        refine ⟨4, k, S214.2.1.ld (by decide) (show k < 40 by omega) rfl, ?_⟩
        refine And.intro (fun c232 => False.elim (by first | exact c232 rfl | exact absurd rfl c232 | exact absurd c232 rfl)) (fun c232 => ?_)
        refine pL_isSo_238 rfl (Nat.ble_eq_true_of_le (by omega)) (Nat.ble_eq_true_of_le (by omega)) (S214.1.choose_spec.2.1.1.t4) (d_whyNot S214 h34 hkb rfl) (fun v κ1 hq238 ho238 hk238 => ?_)
        obtain ⟨rfl, κ238, rfl, S238⟩ := hq238
        refine runL_ok rkL_isSo (fun p => Nat.beq p 71 || Nat.beq p 330) 300 _ _ _ _ _ _ ?_
        refine pL_isSo_254 rfl (Nat.ble_eq_true_of_le (by omega)) (Nat.ble_eq_true_of_le (by omega)) (c_L_why S238.2.1 I h6 hb40 CB CR a2 a3 rfl hkb) (fun v κ1 hq254 ho254 hk254 => ?_)
        obtain ⟨rfl, rfl⟩ := hq254
        refine runL_ok rkL_isSo (fun p => Nat.beq p 71 || Nat.beq p 330) 300 _ _ _ _ _ _ ?_
        refine And.intro (fun c257 => False.elim (by first | exact c257 rfl | exact absurd rfl c257 | exact absurd c257 rfl)) (fun c257 => ?_)
        refine And.intro (fun c272 => False.elim (by first | exact c272 hh | exact absurd hh c272 | exact absurd c272 hh)) (fun c272 => ?_)
        refine ⟨1, k, S238.2.1.ld (by decide) (show k < 40 by omega) rfl, ?_⟩
        refine And.intro (fun c291 => False.elim (by first | exact c291 hh | exact absurd hh c291 | exact absurd c291 hh)) (fun c291 => ?_)
        refine ⟨1, k, S238.2.1.ld (by decide) (show k < 40 by omega) rfl, ?_⟩
        refine ⟨0, k, S238.2.1.ld (by decide) (show k < 40 by omega) rfl, ?_⟩
        refine And.intro (by decide) ?_
        refine ⟨0, k, S238.2.1.ld (by decide) (show k < 40 by omega) rfl, ?_⟩
        refine And.intro (by decide) ?_
        refine And.intro (by decide) ?_
        have Z := ih (k + 1) (by omega) (kc + 1 + 1 + 1 + 1 + 1 + 1 + 1 + 1 + 1) (ns + 6 + 6 + 6 + 6 + 6 + 6 + 6 + 6 + 6) (by omega) (by omega) _ S238 _ _ (some (.int (l 0 k / 1024))) (show tn + l 1 k = sm (fTB σ) k + fTB σ k by rw [htn]; unfold fTB; rw [if_pos h2, q1]) (show mo + l 1 k * ((l 0 k - l 0 k / 16 * 16) + (l 0 k / 16 - l 0 k / 16 / 16 * 16)) = sm (fMB σ) k + fMB σ k by rw [hmo]; unfold fMB; rw [if_pos h2, q1, kf, kg, h8, h9])
        rw [← nI_1 k] at Z
        exact Z
      · skip
        have hh : ¬ l 0 k / 1024 = 2 := by rw [s1024]; exact h2
        have x7 : tBlk σ (nI k) (nI 7) = -1 := by unfold tBlk; rw [if_neg (by decide), if_neg (by decide), if_neg (by decide), if_neg (by decide), if_neg (by decide), if_neg (by decide), if_neg (by decide), nI_clamp (by omega), if_neg h2]
        refine runL_go (κ := κb) (p := p) rkL_isSo (fun p => Nat.beq p 71 || Nat.beq p 330) 300 rfl ?_
        refine ⟨9, 10, Sb.2.1.ld (by decide) (by decide) rfl, ?_⟩
        refine And.intro (fun c78 => False.elim (by first | exact c78 (by rw [a10]; exact fun z => by have := (nI_leI (by omega) (by omega)).mp z; omega) | exact absurd (by rw [a10]; exact fun z => by have := (nI_leI (by omega) (by omega)).mp z; omega) c78 | exact absurd c78 (by rw [a10]; exact fun z => by have := (nI_leI (by omega) (by omega)).mp z; omega))) (fun c78 => ?_)
        refine And.intro (fun c83 => False.elim (by first | exact c83 (by decide) | exact absurd (by decide) c83 | exact absurd c83 (by decide))) (fun c83 => ?_)
        refine ⟨0, k, Sb.2.1.ld (by decide) (show k < 40 by omega) rfl, ?_⟩
        refine And.intro (by decide) ?_
        refine pL_isSo_100 rfl (Nat.ble_eq_true_of_le (by omega)) (Nat.ble_eq_true_of_le (by omega)) (Sb.1.choose_spec.2.1.1.t4) (d_told (q := 0) Sb h34 hkb (by decide) x0) (fun v κ1 hq100 ho100 hk100 => ?_)
        obtain ⟨rfl, κ100, rfl, S100⟩ := hq100
        refine runL_ok rkL_isSo (fun p => Nat.beq p 71 || Nat.beq p 330) 300 _ _ _ _ _ _ ?_
        refine And.intro (fun c105 => False.elim (by first | exact c105 rfl | exact absurd rfl c105 | exact absurd c105 rfl)) (fun c105 => ?_)
        refine pL_isSo_112 rfl (Nat.ble_eq_true_of_le (by omega)) (Nat.ble_eq_true_of_le (by omega)) (S100.1.choose_spec.2.1.1.t4) (d_told (q := 1) S100 h34 hkb (by decide) x1) (fun v κ1 hq112 ho112 hk112 => ?_)
        obtain ⟨rfl, κ112, rfl, S112⟩ := hq112
        refine runL_ok rkL_isSo (fun p => Nat.beq p 71 || Nat.beq p 330) 300 _ _ _ _ _ _ ?_
        refine ⟨0, k, S112.2.1.ld (by decide) (show k < 40 by omega) rfl, ?_⟩
        refine And.intro (by decide) ?_
        refine And.intro (fun c122 => False.elim (by first | exact c122 rfl | exact absurd rfl c122 | exact absurd c122 rfl)) (fun c122 => ?_)
        refine pL_isSo_129 rfl (Nat.ble_eq_true_of_le (by omega)) (Nat.ble_eq_true_of_le (by omega)) (S112.1.choose_spec.2.1.1.t4) (d_told (q := 2) S112 h34 hkb (by decide) x2) (fun v κ1 hq129 ho129 hk129 => ?_)
        obtain ⟨rfl, κ129, rfl, S129⟩ := hq129
        refine runL_ok rkL_isSo (fun p => Nat.beq p 71 || Nat.beq p 330) 300 _ _ _ _ _ _ ?_
        refine ⟨0, k, S129.2.1.ld (by decide) (show k < 40 by omega) rfl, ?_⟩
        refine And.intro (by decide) ?_
        refine And.intro (by decide) ?_
        refine And.intro (fun c142 => False.elim (by first | exact c142 rfl | exact absurd rfl c142 | exact absurd c142 rfl)) (fun c142 => ?_)
        refine pL_isSo_149 rfl (Nat.ble_eq_true_of_le (by omega)) (Nat.ble_eq_true_of_le (by omega)) (S129.1.choose_spec.2.1.1.t4) (d_told (q := 3) S129 h34 hkb (by decide) x3) (fun v κ1 hq149 ho149 hk149 => ?_)
        obtain ⟨rfl, κ149, rfl, S149⟩ := hq149
        refine runL_ok rkL_isSo (fun p => Nat.beq p 71 || Nat.beq p 330) 300 _ _ _ _ _ _ ?_
        refine ⟨0, k, S149.2.1.ld (by decide) (show k < 40 by omega) rfl, ?_⟩
        refine And.intro (by decide) ?_
        refine And.intro (by decide) ?_
        refine And.intro (fun c162 => False.elim (by first | exact c162 rfl | exact absurd rfl c162 | exact absurd c162 rfl)) (fun c162 => ?_)
        refine pL_isSo_169 rfl (Nat.ble_eq_true_of_le (by omega)) (Nat.ble_eq_true_of_le (by omega)) (S149.1.choose_spec.2.1.1.t4) (d_told (q := 4) S149 h34 hkb (by decide) x4) (fun v κ1 hq169 ho169 hk169 => ?_)
        obtain ⟨rfl, κ169, rfl, S169⟩ := hq169
        refine runL_ok rkL_isSo (fun p => Nat.beq p 71 || Nat.beq p 330) 300 _ _ _ _ _ _ ?_
        refine ⟨1, k, S169.2.1.ld (by decide) (show k < 40 by omega) rfl, ?_⟩
        refine And.intro (fun c176 => False.elim (by first | exact c176 rfl | exact absurd rfl c176 | exact absurd c176 rfl)) (fun c176 => ?_)
        refine pL_isSo_183 rfl (Nat.ble_eq_true_of_le (by omega)) (Nat.ble_eq_true_of_le (by omega)) (S169.1.choose_spec.2.1.1.t4) (d_told (q := 5) S169 h34 hkb (by decide) x5) (fun v κ1 hq183 ho183 hk183 => ?_)
        obtain ⟨rfl, κ183, rfl, S183⟩ := hq183
        refine runL_ok rkL_isSo (fun p => Nat.beq p 71 || Nat.beq p 330) 300 _ _ _ _ _ _ ?_
        refine ⟨2, k, S183.2.1.ld (by decide) (show k < 40 by omega) rfl, ?_⟩
        refine And.intro (fun c190 => False.elim (by first | exact c190 rfl | exact absurd rfl c190 | exact absurd c190 rfl)) (fun c190 => ?_)
        refine pL_isSo_198 rfl (Nat.ble_eq_true_of_le (by omega)) (Nat.ble_eq_true_of_le (by omega)) (S183.1.choose_spec.2.1.1.t4) (d_told (q := 6) S183 h34 hkb (by decide) x6) (fun v κ1 hq198 ho198 hk198 => ?_)
        obtain ⟨rfl, κ198, rfl, S198⟩ := hq198
        refine runL_ok rkL_isSo (fun p => Nat.beq p 71 || Nat.beq p 330) 300 _ _ _ _ _ _ ?_
        refine ⟨3, k, S198.2.1.ld (by decide) (show k < 40 by omega) rfl, ?_⟩
        refine And.intro (fun c206 => False.elim (by first | exact c206 rfl | exact absurd rfl c206 | exact absurd c206 rfl)) (fun c206 => ?_)
        refine pL_isSo_214 rfl (Nat.ble_eq_true_of_le (by omega)) (Nat.ble_eq_true_of_le (by omega)) (S198.1.choose_spec.2.1.1.t4) (d_told (q := 7) S198 h34 hkb (by decide) x7) (fun v κ1 hq214 ho214 hk214 => ?_)
        obtain ⟨rfl, κ214, rfl, S214⟩ := hq214
        refine runL_ok rkL_isSo (fun p => Nat.beq p 71 || Nat.beq p 330) 300 _ _ _ _ _ _ ?_
        refine And.intro (fun c220 => ?_) (fun c220 => False.elim (by first | exact c220 hh | exact absurd hh c220 | exact absurd c220 hh))
        refine And.intro (fun c232 => False.elim (by first | exact c232 rfl | exact absurd rfl c232 | exact absurd c232 rfl)) (fun c232 => ?_)
        refine pL_isSo_238 rfl (Nat.ble_eq_true_of_le (by omega)) (Nat.ble_eq_true_of_le (by omega)) (S214.1.choose_spec.2.1.1.t4) (d_whyNot S214 h34 hkb rfl) (fun v κ1 hq238 ho238 hk238 => ?_)
        obtain ⟨rfl, κ238, rfl, S238⟩ := hq238
        refine runL_ok rkL_isSo (fun p => Nat.beq p 71 || Nat.beq p 330) 300 _ _ _ _ _ _ ?_
        refine pL_isSo_254 rfl (Nat.ble_eq_true_of_le (by omega)) (Nat.ble_eq_true_of_le (by omega)) (c_L_why S238.2.1 I h6 hb40 CB CR a2 a3 rfl hkb) (fun v κ1 hq254 ho254 hk254 => ?_)
        obtain ⟨rfl, rfl⟩ := hq254
        refine runL_ok rkL_isSo (fun p => Nat.beq p 71 || Nat.beq p 330) 300 _ _ _ _ _ _ ?_
        refine And.intro (fun c257 => False.elim (by first | exact c257 rfl | exact absurd rfl c257 | exact absurd c257 rfl)) (fun c257 => ?_)
        refine And.intro (fun c272 => ?_) (fun c272 => False.elim (by first | exact c272 hh | exact absurd hh c272 | exact absurd c272 hh))
        refine And.intro (fun c291 => ?_) (fun c291 => False.elim (by first | exact c291 hh | exact absurd hh c291 | exact absurd c291 hh))
        have Z := ih (k + 1) (by omega) (kc + 1 + 1 + 1 + 1 + 1 + 1 + 1 + 1 + 1) (ns + 6 + 6 + 6 + 6 + 6 + 6 + 6 + 6 + 6) (by omega) (by omega) _ S238 _ _ (some (.int (l 0 k / 1024))) (show tn + 0 = sm (fTB σ) k + fTB σ k by rw [htn]; unfold fTB; rw [if_neg h2]) (show mo + 0 = sm (fMB σ) k + fMB σ k by rw [hmo]; unfold fMB; rw [if_neg h2])
        rw [← nI_1 k] at Z
        exact Z
  refine runL_go (κ := κb) (p := p) rkL_isSo (fun p => Nat.beq p 71) 300 rfl ?_
  refine ⟨9, 10, Sb.2.1.ld (by decide) (by decide) rfl, ?_⟩
  refine And.intro (fun c9 => False.elim (by first | exact c9 a10.symm | exact absurd a10.symm c9 | exact absurd c9 a10.symm)) (fun c9 => ?_)
  refine pL_isSo_13 rfl rfl rfl (Sb.1.choose_spec.2.1.1.t4) (d_welds Sb h34 z18) (fun v κ1 hq13 ho13 hk13 => ?_)
  obtain ⟨rfl, κ13, rfl, S13⟩ := hq13
  refine runL_ok rkL_isSo (fun p => Nat.beq p 71) 300 _ _ _ _ _ _ ?_
  refine ⟨9, 11, S13.2.1.ld (by decide) (by decide) rfl, ?_⟩
  refine And.intro (fun c21 => False.elim (by first | exact c21 a11.symm | exact absurd a11.symm c21 | exact absurd c21 a11.symm)) (fun c21 => ?_)
  refine pL_isSo_25 rfl rfl rfl (S13.1.choose_spec.2.1.1.t4) (d_isAfloat S13 h34 h6) (fun v κ1 hq25 ho25 hk25 => ?_)
  obtain ⟨rfl, κ25, rfl, S25⟩ := hq25
  refine runL_ok rkL_isSo (fun p => Nat.beq p 71) 300 _ _ _ _ _ _ ?_
  refine And.intro (fun c28 => False.elim (by first | exact c28 rfl | exact absurd rfl c28 | exact absurd c28 rfl)) (fun c28 => ?_)
  refine pL_isSo_32 rfl rfl rfl (S25.1.choose_spec.2.1.1.t4) (d_money S25 h34 rfl) (fun v κ1 hq32 ho32 hk32 => ?_)
  obtain ⟨rfl, κ32, rfl, S32⟩ := hq32
  refine runL_ok rkL_isSo (fun p => Nat.beq p 71) 300 _ _ _ _ _ _ ?_
  refine ⟨9, 9, S32.2.1.ld (by decide) (by decide) rfl, ?_⟩
  refine And.intro (fun c40 => False.elim (by first | exact c40 a9.symm | exact absurd a9.symm c40 | exact absurd c40 a9.symm)) (fun c40 => ?_)
  refine pL_isSo_44 rfl rfl rfl (S32.1.choose_spec.2.1.1.t4) (d_moneyAnew S32 h34 rfl) (fun v κ1 hq44 ho44 hk44 => ?_)
  obtain ⟨rfl, κ44, rfl, S44⟩ := hq44
  refine runL_ok rkL_isSo (fun p => Nat.beq p 71) 300 _ _ _ _ _ _ ?_
  refine ⟨9, 9, S44.2.1.ld (by decide) (by decide) rfl, ?_⟩
  refine And.intro (fun c52 => False.elim (by first | exact c52 a9.symm | exact absurd a9.symm c52 | exact absurd c52 a9.symm)) (fun c52 => ?_)
  have Z := L1 nb 0 (by omega) 0 0 (by omega) (by omega) _ S44 0 0 none rfl rfl
  exact Z

set_option maxRecDepth 20000 in
theorem c_L_isSo {w : W0} {κ : AH} {p : Nat} {l : LSt} {σ : MS} {nb nw np : Nat} {wb : Nat → Nat} (A : AK κ) (hI : RI κ κ σ nb nw np wb) (C : Cp l σ nb nw np) : CY w yL_isSo mL_isSo [.ref (tS 4), .ref (tM 0), .ref (tM 1), .ref (tM 2), .ref (tM 3), .ref (tM 4), .ref (tM 6), .ref (tM 7), .ref (tM 8), .ref (tM 9)] (PL κ p l) (fun v κ' => PQ κ p v κ') := by
  refine CY_of mcL_isSo (Nat.le_of_ble_eq_true rfl) (cat1 rfl) (fun θ0 => ?_)
  refine runL_ok rkL_isSo noCut 300 _ _ _ _ _ _ ?_
  refine pL_isSo_1 rfl rfl rfl (hI.2.1.1.t4) (k_blocks (RI_PL hI)) (fun v κ1 hq ho hk => ?_)
  obtain ⟨_, rfl, hre⟩ := hq
  obtain ⟨κ2, rfl, S⟩ := CS_34 (κ := κ) ⟨⟨wb, hI⟩, A, fun _ => ⟨rfl, rfl⟩⟩ hre
  rw [hI.1.e8]
  have Z := s_isSo (w := w) (θ0 := θ0) (p := p) (κ := κ) S rfl (Cp_34 (c := 0) C)
  exact Z


/-! THE LAW'S START on the code, 0..123, and the law whole -/
def PA (n : Nat) (κ : AH) : Prop := ∃ wb, RI κ κ σ0 0 0 0 wb ∧ (∀ j, j < n → gT κ (tM j) = 11 ∧ gN κ (tM j) = alen j ∧ ∀ k, gI κ (tM j) k = 0) ∧ ∀ j, n ≤ j → gT κ (tM j) = 0
theorem PA_next {n m : Nat} {κ : AH} (h : PA n κ) (hm : m = alen n) : PA (n + 1) (nO κ (tM n) 11 m) := by
  obtain ⟨wb, hI, hA, hf⟩ := h
  have D : Dif (fun t => ∃ i, t = tM i) κ (nO κ (tM n) 11 m) := Dif.rfl'.nO ⟨n, rfl⟩
  refine ⟨wb, RI_m D hI, fun j hj => ?_, fun j hj => ?_⟩
  · by_cases e : j = n
    · subst e
      exact ⟨by rw [gT_nO, if_pos rfl], by rw [gN_nO, if_pos rfl, hm], fun k => by rw [gI_nO, if_pos rfl]⟩
    · obtain ⟨a, b, c⟩ := hA j (by omega)
      exact ⟨by rw [gT_nO, if_neg (tM_ne e)]; exact a, by rw [gN_nO, if_neg (tM_ne e)]; exact b, fun k => by rw [gI_nO, if_neg (tM_ne e)]; exact c k⟩
  · rw [gT_nO, if_neg (tM_ne (by omega))]
    exact hf j (by omega)
theorem PA_0 {n : Nat} {κ : AH} (h : PA n κ) : gT κ (tM n) = 0 := h.choose_spec.2.2 n (Nat.le_refl _)
theorem PA_AK {κ : AH} (h : PA 10 κ) : AK κ := fun j hj => ⟨(h.choose_spec.2.1 j hj).1, (h.choose_spec.2.1 j hj).2.1⟩
/-- the law's numbers at first -/
def g0 (l : LSt) : LSt := lu (lu (lu (lu l 9 0 6) 9 1 300) 9 3 200) 9 4 1
def gF (l : LSt) : Nat → LSt
  | 0 => g0 l
  | k + 1 => lu (lu (gF l k) 7 k (-1)) 9 (5 + k % 4) 10
theorem gF_7 {l : LSt} {c : Nat} : ∀ n, c < n → gF l n 7 c = -1
  | 0, h => absurd h (Nat.not_lt_zero _)
  | n + 1, h => by
    show lu (lu (gF l n) 7 n (-1)) 9 (5 + n % 4) 10 7 c = -1
    rw [lu_o (fun z => absurd z.1 (by decide))]
    by_cases e : c = n
    · rw [e, lu_s]
    · rw [lu_o (fun z => e z.2)]
      exact gF_7 n (by omega)
theorem gF_o {l : LSt} {j k : Nat} (h7 : j ≠ 7) (h9 : j ≠ 9) : ∀ n, gF l n j k = l j k
  | 0 => by
    show lu (lu (lu (lu l 9 0 6) 9 1 300) 9 3 200) 9 4 1 j k = l j k
    rw [lu_o (fun z => h9 z.1), lu_o (fun z => h9 z.1), lu_o (fun z => h9 z.1), lu_o (fun z => h9 z.1)]
  | n + 1 => by
    show lu (lu (gF l n) 7 n (-1)) 9 (5 + n % 4) 10 j k = l j k
    rw [lu_o (fun z => h9 z.1), lu_o (fun z => h7 z.1)]
    exact gF_o h7 h9 n
theorem gF_9o {l : LSt} {k : Nat} (h : ¬ (5 ≤ k ∧ k ≤ 8)) : ∀ n, gF l n 9 k = g0 l 9 k
  | 0 => rfl
  | n + 1 => by
    show lu (lu (gF l n) 7 n (-1)) 9 (5 + n % 4) 10 9 k = _
    rw [lu_o (fun z => by omega), lu_o (fun z => absurd z.1 (by decide))]
    exact gF_9o h n
theorem gF_95 {l : LSt} {y : Nat} (hy : y < 4) : ∀ n, y < n → gF l n 9 (5 + y) = 10
  | 0, h => absurd h (Nat.not_lt_zero _)
  | n + 1, h => by
    show lu (lu (gF l n) 7 n (-1)) 9 (5 + n % 4) 10 9 (5 + y) = 10
    by_cases e : n % 4 = y
    · rw [e, lu_s]
    · rw [lu_o (fun z => e (by omega)), lu_o (fun z => absurd z.1 (by decide))]
      exact gF_95 hy n (by omega)
theorem g0_9 {l : LSt} (hz : ∀ k, l 9 k = 0) (k : Nat) : g0 l 9 k = if k = 0 then 6 else if k = 1 then 300 else if k = 3 then 200 else if k = 4 then 1 else 0 := by
  show lu (lu (lu (lu l 9 0 6) 9 1 300) 9 3 200) 9 4 1 9 k = _
  by_cases e4 : k = 4
  · subst e4; rw [lu_s]; rfl
  rw [lu_o (fun z => e4 z.2)]
  by_cases e3 : k = 3
  · subst e3; rw [lu_s]; rfl
  rw [lu_o (fun z => e3 z.2)]
  by_cases e1 : k = 1
  · subst e1; rw [lu_s]; rfl
  rw [lu_o (fun z => e1 z.2)]
  by_cases e0 : k = 0
  · subst e0; rw [lu_s]; rfl
  rw [lu_o (fun z => e0 z.2), hz, if_neg e0, if_neg e1, if_neg e3, if_neg e4]
theorem gF_Cp {l : LSt} (hz : ∀ j, j < 10 → ∀ k, l j k = 0) : Cp (gF l 36) σ0 0 0 0 := by
  have G : ∀ k, ¬ (5 ≤ k ∧ k ≤ 8) → gF l 36 9 k = if k = 0 then 6 else if k = 1 then 300 else if k = 3 then 200 else if k = 4 then 1 else 0 := fun k hk => (gF_9o hk 36).trans (g0_9 (hz 9 (by decide)) k)
  refine ⟨⟨by decide, by decide, by decide, rfl⟩, ⟨fun i hi => absurd hi (Nat.not_lt_zero _), fun i hi => absurd hi (Nat.not_lt_zero _), fun c hc => ⟨(gF_7 36 hc).trans (s0_25 hc).symm, ⟨0, 0, 0, 0, by decide, by decide, by decide, by decide, s0_row (by decide) (by decide) c, s0_row (by decide) (by decide) c, s0_row (by decide) (by decide) c, s0_row (by decide) (by decide) c, (gF_o (by decide) (by decide) 36).trans (hz 8 (by decide) c)⟩⟩, ⟨G 0 (by decide), G 1 (by decide), G 2 (by decide), G 3 (by decide), G 4 (by decide), fun y hy => (gF_95 hy 36 (by omega)).trans (if_pos ⟨rfl, hy⟩).symm, G 9 (by decide), G 10 (by decide), G 11 (by decide), G 12 (by decide)⟩, rfl⟩, fun i hi => absurd hi (Nat.not_lt_zero _)⟩
theorem FC_first {κ : AH} (h : PA 10 κ) : FC (PL κ 41 (gF (lo κ 41) 36)) := by
  obtain ⟨wb, hI, hA, hf⟩ := id h
  have hz : ∀ j, j < 10 → ∀ k, lo κ 41 j k = 0 := fun j hj k => by
    show (if j < 10 then gI κ (tM j) k else gI κ (tM 41) k) = 0
    rw [if_pos hj]
    exact (hA j hj).2.2 k
  exact ⟨σ0, wb, RI_PL hI, Fst_0, fun j hj => PA_AK h j hj, Cp_lt (gF_Cp hz) (fun j hj => lo_PLj hj), hf 40 (by decide), fun i hi => hf i (by omega)⟩
theorem lw_94 {w : W0} (hw : w.lX < 2 ^ 31) {κ : AH} {kc ns : Nat} (h : PA 10 κ) (hkc : kc ≤ 100) (hns : ns ≤ 3000) : ∀ m k, m + k = 36 → YS w lwQ kc ns 94 [some (.ref (tM 40)), some (.ref (tS 4)), some (.ref (tM 0)), some (.ref (tM 1)), some (.ref (tM 2)), some (.ref (tM 3)), some (.ref (tM 4)), some (.ref (tM 5)), some (.ref (tM 6)), some (.ref (tM 7)), some (.ref (tM 8)), some (.ref (tM 9)), some (.int (nI k)), none, none, none, none] [] (PL κ 41 (gF (lo κ 41) k)) := by
  have A : AK (PL κ 41 (gF (lo κ 41) 0)) := fun j hj => PA_AK h j hj
  intro m
  induction m with
  | zero =>
    intro k hk
    have e : k = 36 := by omega
    subst e
    refine runS_go (fun p => Nat.beq p 124) 80 rfl ?_
    refine And.intro (fun _ => ?_) (fun c => absurd (show (36 : Int32) ≤ nI 36 by decide) c)
    exact lw_124 hw (FC_first h) hkc hns
  | succ m ih =>
    intro k hk
    have e4 : nI k - nI k / 4 * 4 = nI (k % 4) := by
      rw [show (4 : Int32) = nI 4 from rfl, pk_rem (by omega) (by decide) (by decide)]
    have e5 : (5 : Int32) + nI (k % 4) = nI (5 + k % 4) := by
      rw [show (5 : Int32) = nI 5 from rfl, nI_add]
    refine runS_go (fun p => Nat.beq p 94) 80 rfl ?_
    refine And.intro (fun c => absurd ((nI_leI (a := 36) (by decide) (by omega)).mp c) (by omega)) (fun _ => ?_)
    refine ⟨⟨(A 7 (by decide)).1, by rw [show gN (PL κ 41 (gF (lo κ 41) k)) (tM 7) = 36 from (A 7 (by decide)).2]; exact vp_in_nI (N := 36) (by omega) (by decide)⟩, ?_⟩
    rw [nI_clamp (by omega), PL_sI (a := tM 7) (j := 7) (lnr_M (by decide)) (by decide)]
    refine ⟨by decide, ?_⟩
    rw [e4]
    refine ⟨⟨(A 9 (by decide)).1, by rw [e5, show gN (PL κ 41 (lu (gF (lo κ 41) k) 7 k (-1))) (tM 9) = 13 from (A 9 (by decide)).2]; exact vp_in_nI (N := 13) (by omega) (by decide)⟩, ?_⟩
    rw [e5, nI_clamp (by omega), PL_sI (a := tM 9) (j := 9) (lnr_M (by decide)) (by decide)]
    have Z := ih (k + 1) (by omega)
    rw [← nI_1 k] at Z
    exact Z
theorem lw_66 {w : W0} (hw : w.lX < 2 ^ 31) {κ : AH} {kc ns : Nat} (h : PA 10 κ) (hkc : kc ≤ 100) (hns : ns ≤ 3000) : YS w lwQ kc ns 66 [some (.ref (tM 40)), some (.ref (tS 4)), some (.ref (tM 0)), some (.ref (tM 1)), some (.ref (tM 2)), some (.ref (tM 3)), some (.ref (tM 4)), some (.ref (tM 5)), some (.ref (tM 6)), some (.ref (tM 7)), some (.ref (tM 8)), some (.ref (tM 9)), none, none, none, none, none] [] κ := by
  have key : YS w lwQ kc ns 66 [some (.ref (tM 40)), some (.ref (tS 4)), some (.ref (tM 0)), some (.ref (tM 1)), some (.ref (tM 2)), some (.ref (tM 3)), some (.ref (tM 4)), some (.ref (tM 5)), some (.ref (tM 6)), some (.ref (tM 7)), some (.ref (tM 8)), some (.ref (tM 9)), none, none, none, none, none] [] (PL κ 41 (lo κ 41)) := by
    have A : AK (PL κ 41 (lo κ 41)) := fun j hj => PA_AK h j hj
    have K : YS w lwQ kc ns 94 [some (.ref (tM 40)), some (.ref (tS 4)), some (.ref (tM 0)), some (.ref (tM 1)), some (.ref (tM 2)), some (.ref (tM 3)), some (.ref (tM 4)), some (.ref (tM 5)), some (.ref (tM 6)), some (.ref (tM 7)), some (.ref (tM 8)), some (.ref (tM 9)), some (.int 0), none, none, none, none] [] (PL κ 41 (g0 (lo κ 41))) := lw_94 hw h hkc hns 36 0 rfl
    have hin : ∀ l n, n < 13 → vp_in (nI n) (gN (PL κ 41 l) (tM 9)) := fun l n hn => by
      rw [show gN (PL κ 41 l) (tM 9) = 13 from (A 9 (by decide)).2]; exact vp_in_nI (N := 13) hn (by decide)
    refine runS_go (fun p => Nat.beq p 94) 80 rfl ?_
    refine ⟨⟨(A 9 (by decide)).1, hin _ 0 (by decide)⟩, ?_⟩
    rw [PL_sI (a := tM 9) (j := 9) (lnr_M (by decide)) (by decide)]
    refine ⟨⟨(A 9 (by decide)).1, hin _ 1 (by decide)⟩, ?_⟩
    rw [PL_sI (a := tM 9) (j := 9) (lnr_M (by decide)) (by decide)]
    refine ⟨⟨(A 9 (by decide)).1, hin _ 3 (by decide)⟩, ?_⟩
    rw [PL_sI (a := tM 9) (j := 9) (lnr_M (by decide)) (by decide)]
    refine ⟨⟨(A 9 (by decide)).1, hin _ 4 (by decide)⟩, ?_⟩
    rw [PL_sI (a := tM 9) (j := 9) (lnr_M (by decide)) (by decide)]
    exact K
  rw [← PL_lo] at key
  exact key
theorem law_all {w : W0} {κ : AH} (hw : w.lX < 2 ^ 31) (hE : ∀ t, gT κ t = 0) : YS w lwQ 0 0 0 [some (.ref (tM 40)), none, none, none, none, none, none, none, none, none, none, none, none, none, none, none, none] [] κ := by
  have hf : ∀ t, (∀ i, t ≠ tM i) → gT κ t = 0 := fun t _ => hE t
  refine sL_law_0 (tS 4) rfl rfl (hE _) (fun z => tS_M.mp z) ?_
  have h4 : gT (nO κ (tS 4) 9 0) (tS 4) = 9 := by rw [gT_nO, if_pos rfl]
  have ho : ∀ t, t ≠ tS 4 → gT (nO κ (tS 4) 9 0) t = gT κ t := fun t ht => by rw [gT_nO, if_neg ht]
  refine runS_ok noCut 80 _ _ _ _ _ _ ?_
  refine sL_law_4 rfl rfl rfl (okK_cons (by show gT _ (tS 4) ≠ 0; rw [h4]; decide) okK_z) (c_X8_init h4 (fun i hi hne => (ho _ (fun z => hne (tS_inj.mp z))).trans (hf _ (fun i z => tS_M.mp z)))) (fun v κ1 q hk1 hk2 => ?_)
  obtain ⟨rfl, rfl⟩ := q
  refine ⟨?_, ?_⟩
  · exact (ni_D (tM 40) (fun ⟨i, hi⟩ => tM_S.mp hi)).1.trans ((ho _ (fun z => tM_S.mp z)).trans (hE _))
  have R0 : RI (nO κ (tS 4) 9 0) (niH (nO κ (tS 4) 9 0)) σ0 0 0 0 (fun _ => 0) := s_new h4 (fun i => (ho _ (fun z => tB_S.mp z)).trans (hf _ (fun i z => tB_M.mp z))) (fun i => (ho _ (fun z => tW_S.mp z)).trans (hf _ (fun i z => tW_M.mp z))) (fun i => (ho _ (fun z => tR_S.mp z)).trans (hf _ (fun i z => tR_M.mp z))) (fun i => (ho _ (fun z => tP_S.mp z)).trans (hf _ (fun i z => tP_M.mp z))) (fun i => (ho _ (fun z => tC_S.mp z)).trans (hf _ (fun i z => tC_M.mp z)))
  have P0 : PA 0 (niH (nO κ (tS 4) 9 0)) := ⟨_, ⟨R0.1, R0.2.1, FM.refl _⟩, fun j hj => absurd hj (Nat.not_lt_zero _), fun j _ => (R0.2.2 j).1.trans ((ho _ (fun z => tM_S.mp z)).trans (hE _))⟩
  generalize niH (nO κ (tS 4) 9 0) = κ0 at P0 ⊢
  refine runS_ok noCut 80 _ _ _ _ _ _ ?_
  refine sL_law_10 (tM 0) rfl rfl (PA_0 P0) (tM_ne (by decide)) ?_
  have P1 : PA 1 (nO κ0 (tM 0) 11 40) := PA_next P0 rfl
  generalize nO κ0 (tM 0) 11 40 = κ_1 at P1 ⊢
  refine runS_ok noCut 80 _ _ _ _ _ _ ?_
  refine sL_law_15 (tM 1) rfl rfl (PA_0 P1) (tM_ne (by decide)) ?_
  have P2 : PA 2 (nO κ_1 (tM 1) 11 40) := PA_next P1 rfl
  generalize nO κ_1 (tM 1) 11 40 = κ_2 at P2 ⊢
  refine runS_ok noCut 80 _ _ _ _ _ _ ?_
  refine sL_law_20 (tM 2) rfl rfl (PA_0 P2) (tM_ne (by decide)) ?_
  have P3 : PA 3 (nO κ_2 (tM 2) 11 40) := PA_next P2 rfl
  generalize nO κ_2 (tM 2) 11 40 = κ_3 at P3 ⊢
  refine runS_ok noCut 80 _ _ _ _ _ _ ?_
  refine sL_law_26 (tM 3) rfl rfl (PA_0 P3) (tM_ne (by decide)) ?_
  have P4 : PA 4 (nO κ_3 (tM 3) 11 40) := PA_next P3 rfl
  generalize nO κ_3 (tM 3) 11 40 = κ_4 at P4 ⊢
  refine runS_ok noCut 80 _ _ _ _ _ _ ?_
  refine sL_law_32 (tM 4) rfl rfl (PA_0 P4) (tM_ne (by decide)) ?_
  have P5 : PA 5 (nO κ_4 (tM 4) 11 40) := PA_next P4 rfl
  generalize nO κ_4 (tM 4) 11 40 = κ_5 at P5 ⊢
  refine runS_ok noCut 80 _ _ _ _ _ _ ?_
  refine sL_law_38 (tM 5) rfl rfl (PA_0 P5) (tM_ne (by decide)) ?_
  have P6 : PA 6 (nO κ_5 (tM 5) 11 40) := PA_next P5 rfl
  generalize nO κ_5 (tM 5) 11 40 = κ_6 at P6 ⊢
  refine runS_ok noCut 80 _ _ _ _ _ _ ?_
  refine sL_law_44 (tM 6) rfl rfl (PA_0 P6) (tM_ne (by decide)) ?_
  have P7 : PA 7 (nO κ_6 (tM 6) 11 61) := PA_next P6 rfl
  generalize nO κ_6 (tM 6) 11 61 = κ_7 at P7 ⊢
  refine runS_ok noCut 80 _ _ _ _ _ _ ?_
  refine sL_law_50 (tM 7) rfl rfl (PA_0 P7) (tM_ne (by decide)) ?_
  have P8 : PA 8 (nO κ_7 (tM 7) 11 36) := PA_next P7 rfl
  generalize nO κ_7 (tM 7) 11 36 = κ_8 at P8 ⊢
  refine runS_ok noCut 80 _ _ _ _ _ _ ?_
  refine sL_law_56 (tM 8) rfl rfl (PA_0 P8) (tM_ne (by decide)) ?_
  have P9 : PA 9 (nO κ_8 (tM 8) 11 37) := PA_next P8 rfl
  generalize nO κ_8 (tM 8) 11 37 = κ_9 at P9 ⊢
  refine runS_ok noCut 80 _ _ _ _ _ _ ?_
  refine sL_law_62 (tM 9) rfl rfl (PA_0 P9) (tM_ne (by decide)) ?_
  have P10 : PA 10 (nO κ_9 (tM 9) 11 13) := PA_next P9 rfl
  generalize nO κ_9 (tM 9) 11 13 = κ_10 at P10 ⊢
  refine runS_ok (fun p => Nat.beq p 66) 80 _ _ _ _ _ _ ?_
  exact lw_66 hw P10 (by decide) (by decide)


/-! THE LAW -/
theorem RE_m {κ0 κ κ' : AH} {σ : MS} (D : Dif (fun t => ∃ i, t = tM i) κ κ') (h : RE κ0 κ σ) : RE κ' κ' σ := by
  obtain ⟨nb, nw, np, wb, I, ⟨G, N, B, W, R, P, H, L⟩, F⟩ := h
  exact ⟨nb, nw, np, wb, I, ⟨SG_d D (fun i hi z => by obtain ⟨j, hj⟩ := z; exact tS_M.mp hj) G, hNm_d D (by simp [tB_inj, tB_W, tB_R, tB_P, tB_C, tB_S, tW_inj, tW_B, tW_R, tW_P, tW_C, tW_S, tR_inj, tR_B, tR_W, tR_P, tR_C, tR_S, tP_inj, tP_B, tP_W, tP_R, tP_C, tP_S, tC_inj, tC_B, tC_W, tC_R, tC_P, tC_S, tS_inj, tS_B, tS_W, tS_R, tS_P, tS_C, tM_inj, tM_B, tM_W, tM_R, tM_P, tM_C, tM_S, tB_M, tW_M, tR_M, tP_M, tC_M, tS_M]) (by simp [tB_inj, tB_W, tB_R, tB_P, tB_C, tB_S, tW_inj, tW_B, tW_R, tW_P, tW_C, tW_S, tR_inj, tR_B, tR_W, tR_P, tR_C, tR_S, tP_inj, tP_B, tP_W, tP_R, tP_C, tP_S, tC_inj, tC_B, tC_W, tC_R, tC_P, tC_S, tS_inj, tS_B, tS_W, tS_R, tS_P, tS_C, tM_inj, tM_B, tM_W, tM_R, tM_P, tM_C, tM_S, tB_M, tW_M, tR_M, tP_M, tC_M, tS_M]) (by simp [tB_inj, tB_W, tB_R, tB_P, tB_C, tB_S, tW_inj, tW_B, tW_R, tW_P, tW_C, tW_S, tR_inj, tR_B, tR_W, tR_P, tR_C, tR_S, tP_inj, tP_B, tP_W, tP_R, tP_C, tP_S, tC_inj, tC_B, tC_W, tC_R, tC_P, tC_S, tS_inj, tS_B, tS_W, tS_R, tS_P, tS_C, tM_inj, tM_B, tM_W, tM_R, tM_P, tM_C, tM_S, tB_M, tW_M, tR_M, tP_M, tC_M, tS_M]) N, hB_d D (by simp [tB_inj, tB_W, tB_R, tB_P, tB_C, tB_S, tW_inj, tW_B, tW_R, tW_P, tW_C, tW_S, tR_inj, tR_B, tR_W, tR_P, tR_C, tR_S, tP_inj, tP_B, tP_W, tP_R, tP_C, tP_S, tC_inj, tC_B, tC_W, tC_R, tC_P, tC_S, tS_inj, tS_B, tS_W, tS_R, tS_P, tS_C, tM_inj, tM_B, tM_W, tM_R, tM_P, tM_C, tM_S, tB_M, tW_M, tR_M, tP_M, tC_M, tS_M]) (fun i => by simp [tB_inj, tB_W, tB_R, tB_P, tB_C, tB_S, tW_inj, tW_B, tW_R, tW_P, tW_C, tW_S, tR_inj, tR_B, tR_W, tR_P, tR_C, tR_S, tP_inj, tP_B, tP_W, tP_R, tP_C, tP_S, tC_inj, tC_B, tC_W, tC_R, tC_P, tC_S, tS_inj, tS_B, tS_W, tS_R, tS_P, tS_C, tM_inj, tM_B, tM_W, tM_R, tM_P, tM_C, tM_S, tB_M, tW_M, tR_M, tP_M, tC_M, tS_M]) B, hW_d D (by simp [tB_inj, tB_W, tB_R, tB_P, tB_C, tB_S, tW_inj, tW_B, tW_R, tW_P, tW_C, tW_S, tR_inj, tR_B, tR_W, tR_P, tR_C, tR_S, tP_inj, tP_B, tP_W, tP_R, tP_C, tP_S, tC_inj, tC_B, tC_W, tC_R, tC_P, tC_S, tS_inj, tS_B, tS_W, tS_R, tS_P, tS_C, tM_inj, tM_B, tM_W, tM_R, tM_P, tM_C, tM_S, tB_M, tW_M, tR_M, tP_M, tC_M, tS_M]) (fun i => by simp [tB_inj, tB_W, tB_R, tB_P, tB_C, tB_S, tW_inj, tW_B, tW_R, tW_P, tW_C, tW_S, tR_inj, tR_B, tR_W, tR_P, tR_C, tR_S, tP_inj, tP_B, tP_W, tP_R, tP_C, tP_S, tC_inj, tC_B, tC_W, tC_R, tC_P, tC_S, tS_inj, tS_B, tS_W, tS_R, tS_P, tS_C, tM_inj, tM_B, tM_W, tM_R, tM_P, tM_C, tM_S, tB_M, tW_M, tR_M, tP_M, tC_M, tS_M]) W, hRm_d D (by simp [tB_inj, tB_W, tB_R, tB_P, tB_C, tB_S, tW_inj, tW_B, tW_R, tW_P, tW_C, tW_S, tR_inj, tR_B, tR_W, tR_P, tR_C, tR_S, tP_inj, tP_B, tP_W, tP_R, tP_C, tP_S, tC_inj, tC_B, tC_W, tC_R, tC_P, tC_S, tS_inj, tS_B, tS_W, tS_R, tS_P, tS_C, tM_inj, tM_B, tM_W, tM_R, tM_P, tM_C, tM_S, tB_M, tW_M, tR_M, tP_M, tC_M, tS_M]) (fun i hi => by simp [tB_inj, tB_W, tB_R, tB_P, tB_C, tB_S, tW_inj, tW_B, tW_R, tW_P, tW_C, tW_S, tR_inj, tR_B, tR_W, tR_P, tR_C, tR_S, tP_inj, tP_B, tP_W, tP_R, tP_C, tP_S, tC_inj, tC_B, tC_W, tC_R, tC_P, tC_S, tS_inj, tS_B, tS_W, tS_R, tS_P, tS_C, tM_inj, tM_B, tM_W, tM_R, tM_P, tM_C, tM_S, tB_M, tW_M, tR_M, tP_M, tC_M, tS_M]) R, hPi_d D (by simp [tB_inj, tB_W, tB_R, tB_P, tB_C, tB_S, tW_inj, tW_B, tW_R, tW_P, tW_C, tW_S, tR_inj, tR_B, tR_W, tR_P, tR_C, tR_S, tP_inj, tP_B, tP_W, tP_R, tP_C, tP_S, tC_inj, tC_B, tC_W, tC_R, tC_P, tC_S, tS_inj, tS_B, tS_W, tS_R, tS_P, tS_C, tM_inj, tM_B, tM_W, tM_R, tM_P, tM_C, tM_S, tB_M, tW_M, tR_M, tP_M, tC_M, tS_M]) (fun i => by simp [tB_inj, tB_W, tB_R, tB_P, tB_C, tB_S, tW_inj, tW_B, tW_R, tW_P, tW_C, tW_S, tR_inj, tR_B, tR_W, tR_P, tR_C, tR_S, tP_inj, tP_B, tP_W, tP_R, tP_C, tP_S, tC_inj, tC_B, tC_W, tC_R, tC_P, tC_S, tS_inj, tS_B, tS_W, tS_R, tS_P, tS_C, tM_inj, tM_B, tM_W, tM_R, tM_P, tM_C, tM_S, tB_M, tW_M, tR_M, tP_M, tC_M, tS_M]) (fun i => by simp [tB_inj, tB_W, tB_R, tB_P, tB_C, tB_S, tW_inj, tW_B, tW_R, tW_P, tW_C, tW_S, tR_inj, tR_B, tR_W, tR_P, tR_C, tR_S, tP_inj, tP_B, tP_W, tP_R, tP_C, tP_S, tC_inj, tC_B, tC_W, tC_R, tC_P, tC_S, tS_inj, tS_B, tS_W, tS_R, tS_P, tS_C, tM_inj, tM_B, tM_W, tM_R, tM_P, tM_C, tM_S, tB_M, tW_M, tR_M, tP_M, tC_M, tS_M]) P, hHu_d D (by simp [tB_inj, tB_W, tB_R, tB_P, tB_C, tB_S, tW_inj, tW_B, tW_R, tW_P, tW_C, tW_S, tR_inj, tR_B, tR_W, tR_P, tR_C, tR_S, tP_inj, tP_B, tP_W, tP_R, tP_C, tP_S, tC_inj, tC_B, tC_W, tC_R, tC_P, tC_S, tS_inj, tS_B, tS_W, tS_R, tS_P, tS_C, tM_inj, tM_B, tM_W, tM_R, tM_P, tM_C, tM_S, tB_M, tW_M, tR_M, tP_M, tC_M, tS_M]) H, hLe_d D (by simp [tB_inj, tB_W, tB_R, tB_P, tB_C, tB_S, tW_inj, tW_B, tW_R, tW_P, tW_C, tW_S, tR_inj, tR_B, tR_W, tR_P, tR_C, tR_S, tP_inj, tP_B, tP_W, tP_R, tP_C, tP_S, tC_inj, tC_B, tC_W, tC_R, tC_P, tC_S, tS_inj, tS_B, tS_W, tS_R, tS_P, tS_C, tM_inj, tM_B, tM_W, tM_R, tM_P, tM_C, tM_S, tB_M, tW_M, tR_M, tP_M, tC_M, tS_M]) (by simp [tB_inj, tB_W, tB_R, tB_P, tB_C, tB_S, tW_inj, tW_B, tW_R, tW_P, tW_C, tW_S, tR_inj, tR_B, tR_W, tR_P, tR_C, tR_S, tP_inj, tP_B, tP_W, tP_R, tP_C, tP_S, tC_inj, tC_B, tC_W, tC_R, tC_P, tC_S, tS_inj, tS_B, tS_W, tS_R, tS_P, tS_C, tM_inj, tM_B, tM_W, tM_R, tM_P, tM_C, tM_S, tB_M, tW_M, tR_M, tP_M, tC_M, tS_M]) L⟩, FM.refl _⟩
theorem JT_d {S : Nat → Prop} {κ κ' : AH} (D : Dif S κ κ') (hs : ∀ i, i < 40 → ¬ S (tM i)) (h : JT κ) : JT κ' := by
  have d0 := D (tM 0) (hs 0 (by decide))
  refine ⟨d0.1.trans h.1, fun k hk => ?_⟩
  have dk := D (tM (k + 1)) (hs _ (by have := mkd_lt hk; omega))
  exact ⟨(d0.2.2.2 k).trans (h.2 k hk).1, dk.1.trans (h.2 k hk).2.1, dk.2.1.trans (h.2 k hk).2.2⟩
theorem JM_d {S : Nat → Prop} {κ κ' : AH} {σ : MS} (D : Dif S κ κ') (hs : ∀ i, i < 40 → ¬ S (tM i)) (h : JM κ σ) : JM κ' σ := by
  have d0 := D (tM 0) (hs 0 (by decide))
  refine ⟨fun k => (d0.2.2.1 k).trans (h.1 k), fun k hk i => ?_⟩
  have dk := D (tM (k + 1)) (hs _ (by have := mkd_lt hk; omega))
  exact (dk.2.2.1 i).trans (h.2 k hk i)
theorem ct_7 {len n : Nat} (hl : len ≤ 3584) (hn : 7 * n ≤ len) : (nI len - 7 < nI (7 * n) ↔ ¬ 7 * n + 7 ≤ len) := by
  have e7 : (7 : Int32) = nI 7 := rfl
  rw [Int32.lt_iff_toInt_lt, e7, pk_sub_toInt (by omega) (by decide), nI_toInt (by omega)]
  omega
theorem law_loop {w : W0} (hlen : w.lX ≤ 3584) : ∀ (m n : Nat) (κ : AH) (σ : MS) (kc ns : Nat) (x5 x6 : Option Value), 7 * n ≤ w.lX → w.lX ≤ 7 * (m + n) → LI κ σ → kc ≤ 100 + 20 * n → ns ≤ 4000 + 200 * n → YS w lQv kc ns 23 (LL n x5 x6) [] κ := by
  intro m
  induction m with
  | zero =>
    intro n κ σ kc ns x5 x6 hn hm hL hkc hns
    refine runS_go (fun p => Nat.beq p 23) 80 rfl ?_
    refine And.intro rfl ?_
    refine And.intro (fun c => ?_) (fun c => ?_)
    · exact And.intro ⟨(show kc ≤ 601024 by omega), (show ns ≤ 7293034 by omega)⟩ (And.intro (Or.inr rfl) rfl)
    · exfalso
      exact c ((ct_7 hlen hn).mpr (by omega))
  | succ m ih =>
    intro n κ σ kc ns x5 x6 hn hm hL hkc hns
    refine runS_go (fun p => Nat.beq p 23) 80 rfl ?_
    refine And.intro rfl ?_
    refine And.intro (fun c => ?_) (fun c => ?_)
    · exact And.intro ⟨(show kc ≤ 601024 by omega), (show ns ≤ 7293034 by omega)⟩ (And.intro (Or.inr rfl) rfl)
    · have hn7 : 7 * n + 7 ≤ w.lX := Classical.not_not.mp (fun z => c ((ct_7 hlen hn).mpr z))
      have K : ∀ (κ' : AH) (σ' : MS) (kc' ns' : Nat) (y5 y6 : Option Value), LI κ' σ' → kc' ≤ 100 + 20 * (n + 1) → ns' ≤ 4000 + 200 * (n + 1) → YS w lQv kc' ns' 1729 (LL n y5 y6) [] κ' := by
        intro κ' σ' kc' ns' y5 y6 hL' h1 h2
        have q := ih (n + 1) κ' σ' kc' ns' y5 y6 (by omega) (by omega) hL' h1 h2
        refine runS_go (fun p => Nat.beq p 23) 80 rfl ?_
        have e : LL (n + 1) y5 y6 = [some (.ref (tM 40)), some (.ref (tS 4)), some (.ref (tM 0)), some (.ref (tM 41)), some (.int (nI (7 * n) + 7)), y5, y6] := by
          have e2 : nI (7 * (n + 1)) = nI (7 * n) + 7 := (nI_add (7 * n) 7).symm
          unfold LL
          rw [e2]
        rw [e] at q
        exact q
      refine And.intro (sc_ok hlen hn7 (j := 0) (by decide) rfl) ?_
      refine sL_law_40 (fun _ => lc_hall hL hn7 hlen hkc hns K) (fun _ => lc_crane hL hn7 hlen hkc hns K) (fun _ => lc_welder hL hn7 hlen hkc hns K) (fun _ => lc_draw hL hn7 hlen hkc hns K) (fun _ => lc_block hL hn7 hlen hkc hns K) (fun _ => lc_join hL hn7 hlen hkc hns K) (fun _ => lc_erect hL hn7 hlen hkc hns K) (fun _ => lc_scrap hL hn7 hlen hkc hns K) (fun _ => lc_test hL hn7 hlen hkc hns K) (fun _ => lc_repair hL hn7 hlen hkc hns K) (fun _ => lc_hole hL hn7 hlen hkc hns K) (fun _ => lc_paint hL hn7 hlen hkc hns K) (fun _ => lc_fit hL hn7 hlen hkc hns K) (fun _ => lc_pipe hL hn7 hlen hkc hns K) (fun _ => lc_launch hL hn7 hlen hkc hns K) (fun _ => lc_blocks hL hn7 hlen hkc hns K) (fun _ => lc_welds hL hn7 hlen hkc hns K) (fun _ => lc_isAfloat hL hn7 hlen hkc hns K) (fun _ => lc_whyNot hL hn7 hlen hkc hns K) (fun _ => lc_told hL hn7 hlen hkc hns K) (fun _ => lc_weld hL hn7 hlen hkc hns K) (fun _ => lc_cell hL hn7 hlen hkc hns K) (fun _ => lc_roomAt hL hn7 hlen hkc hns K) (fun _ => lc_tons hL hn7 hlen hkc hns K) (fun _ => lc_tonsAnew hL hn7 hlen hkc hns K) (fun _ => lc_centre hL hn7 hlen hkc hns K) (fun _ => lc_draught hL hn7 hlen hkc hns K) (fun _ => lc_water hL hn7 hlen hkc hns K) (fun _ => lc_firstHour hL hn7 hlen hkc hns K) (fun _ => lc_money hL hn7 hlen hkc hns K) (fun _ => lc_moneyAnew hL hn7 hlen hkc hns K) ?_
      exact fun _ => K _ _ _ _ _ _ hL (by omega) (by omega)
theorem law_all {w : W0} {κ : AH} (hlen : w.lX ≤ 3584) (hE : ∀ t, gT κ t = 0) : YS w lQv 0 0 0 [some (.ref (tM 40)), none, none, none, none, none, none] [] κ := by
  have hf : ∀ t, (∀ i, t ≠ tM i) → gT κ t = 0 := fun t _ => hE t
  refine sL_law_0 (tS 4) rfl rfl (hE _) (fun z => tS_M.mp z) ?_
  have h4 : gT (nO κ (tS 4) 9 0) (tS 4) = 9 := by rw [gT_nO, if_pos rfl]
  have ho : ∀ t, t ≠ tS 4 → gT (nO κ (tS 4) 9 0) t = gT κ t := fun t ht => by rw [gT_nO, if_neg ht]
  refine runS_ok noCut 80 _ _ _ _ _ _ ?_
  refine sL_law_4 rfl rfl rfl (okK_r h4 okK_n) (c_X8_init h4 (fun i hi hne => (ho _ (fun z => hne (tS_inj.mp z))).trans (hf _ (fun i z => tS_M.mp z)))) (fun v κ1 q hk1 hk2 => ?_)
  obtain ⟨rfl, rfl⟩ := q
  refine ⟨?_, ?_⟩
  · exact (ni_D (tM 40) (fun ⟨i, hi⟩ => tM_S.mp hi)).1.trans ((ho _ (fun z => tM_S.mp z)).trans (hE _))
  have R0 : RI (nO κ (tS 4) 9 0) (niH (nO κ (tS 4) 9 0)) σ0 0 0 0 (fun _ => 0) := s_new h4 (fun i => (ho _ (fun z => tB_S.mp z)).trans (hf _ (fun i z => tB_M.mp z))) (fun i => (ho _ (fun z => tW_S.mp z)).trans (hf _ (fun i z => tW_M.mp z))) (fun i => (ho _ (fun z => tR_S.mp z)).trans (hf _ (fun i z => tR_M.mp z))) (fun i => (ho _ (fun z => tP_S.mp z)).trans (hf _ (fun i z => tP_M.mp z))) (fun i => (ho _ (fun z => tC_S.mp z)).trans (hf _ (fun i z => tC_M.mp z)))
  have hM : ∀ i, gT (niH (nO κ (tS 4) 9 0)) (tM i) = gT κ (tM i) := fun i => (R0.2.2 i).1.trans (ho _ (fun z => tM_S.mp z))
  have hMf : ∀ i, i ≠ 40 → gT (niH (nO κ (tS 4) 9 0)) (tM i) = 0 := fun i hi => (hM i).trans (hE _)
  refine runS_ok noCut 80 _ _ _ _ _ _ ?_
  refine sL_law_8 (tM 0) rfl rfl (hMf 0 (by decide)) (fun z => absurd (tM_inj.mp z) (by decide)) ?_
  refine runS_ok noCut 80 _ _ _ _ _ _ ?_
  have hO : ∀ t, t ≠ tM 0 → gT (nO (niH (nO κ (tS 4) 9 0)) (tM 0) 10 0) t = gT (niH (nO κ (tS 4) 9 0)) t := fun t ht => by rw [gT_nO, if_neg ht]
  have m0 : gT (nO (niH (nO κ (tS 4) 9 0)) (tM 0) 10 0) (tM 0) = 10 := by rw [gT_nO, if_pos rfl]
  have mz : ∀ k, gI (nO (niH (nO κ (tS 4) 9 0)) (tM 0) 10 0) (tM 0) k = 0 := fun k => by rw [gI_nO, if_pos rfl]
  refine sL_law_12 rfl rfl rfl (okK_r m0 okK_n) (c_X9_init m0 (fun k hk => (hO _ (fun z => absurd (tM_inj.mp z) (by omega))).trans (hMf _ (by have := mkd_lt hk; omega))) mz) (fun v κ2 q hk3 hk4 => ?_)
  obtain ⟨rfl, rfl⟩ := q
  have DM := nm_D (κ := nO (niH (nO κ (tS 4) 9 0)) (tM 0) 10 0)
  have e40 : gT (nmH (nO (niH (nO κ (tS 4) 9 0)) (tM 0) 10 0)) (tM 40) = 0 := by
    have d := DM (tM 40) (fun ⟨i, hi, z⟩ => by have := tM_inj.mp z; omega)
    exact d.1.trans ((hO _ (fun z => absurd (tM_inj.mp z) (by decide))).trans ((hM 40).trans (hE _)))
  refine ⟨e40, ?_⟩
  have e41 : gT (nmH (nO (niH (nO κ (tS 4) 9 0)) (tM 0) 10 0)) (tM 41) = 0 := by
    have d := DM (tM 41) (fun ⟨i, hi, z⟩ => by have := tM_inj.mp z; omega)
    exact d.1.trans ((hO _ (fun z => absurd (tM_inj.mp z) (by decide))).trans (hMf 41 (by decide)))
  refine runS_ok noCut 80 _ _ _ _ _ _ ?_
  refine sL_law_17 (tM 41) rfl rfl e41 (fun z => absurd (tM_inj.mp z) (by decide)) ?_
  refine runS_ok (fun p => Nat.beq p 23) 80 _ _ _ _ _ _ ?_
  have D3 : Dif (fun t => t = tM 41) (nmH (nO (niH (nO κ (tS 4) 9 0)) (tM 0) 10 0)) (nO (nmH (nO (niH (nO κ (tS 4) 9 0)) (tM 0) 10 0)) (tM 41) 13 1) := Dif.rfl'.nO rfl
  have DA : Dif (fun t => ∃ i, t = tM i) (niH (nO κ (tS 4) 9 0)) (nO (nmH (nO (niH (nO κ (tS 4) 9 0)) (tM 0) 10 0)) (tM 41) 13 1) := (((Dif.rfl'.nO ⟨0, rfl⟩).tr (DM.mono fun t z => by obtain ⟨i, _, hi⟩ := z; exact ⟨i, hi⟩)).tr (D3.mono fun t z => ⟨41, z⟩))
  have hs : ∀ i, i < 40 → ¬ tM i = tM 41 := fun i hi z => by have := tM_inj.mp z; omega
  have hL : LI (nO (nmH (nO (niH (nO κ (tS 4) 9 0)) (tM 0) 10 0)) (tM 41) 13 1) σ0 := ⟨RE_m DA ⟨_, _, _, _, R0⟩, JT_d D3 hs (nm_JT m0), JM_d D3 hs (nm_JM mz), ⟨by rw [gT_nO, if_pos rfl], by rw [gN_nO, if_pos rfl]⟩, (by rw [gT_nO, if_neg (fun z => absurd (tM_inj.mp z) (by decide))]; exact e40)⟩
  exact law_loop hlen 600 0 _ σ0 _ _ none none (by omega) (by omega) hL (show _ ≤ _ by omega) (show _ ≤ _ by omega)

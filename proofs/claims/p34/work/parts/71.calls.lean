/-! EACH CALL: the component answers as the model does, and all that holds is kept -/
theorem Cv.mono {w : W0} {M : MI} {y : MethodName} {as : List Value} {h : AH} {Q Q' : Option Value → AH → Prop} {QX QX' : String → AH → Prop} (H : Cv w y M as h Q QX) (hq : ∀ v h', Q v h' → Q' v h') (hx : ∀ E h', QX E h' → QX' E h') : Cv w y M as h Q' QX' := by
  intro p e ha hc hk s m args below hf happ hP hK
  obtain ⟨n, o, h1, h2, h3, hq0⟩ := H p e ha hc hk s m args below hf happ hP hK
  refine ⟨n, o, h1, h2, h3, ?_⟩
  rcases hq0 with ⟨⟨v, h', e1, e2, e3⟩, h5⟩ | ⟨q, g1, E, ce, L, ⟨h', g2, g3⟩, g4⟩
  · exact Or.inl ⟨⟨v, h', e1, hq v h' e2, e3⟩, h5⟩
  · exact Or.inr ⟨q, g1, E, ce, L, ⟨h', hx E h' g2, g3⟩, g4⟩
theorem CYV.mono {w : W0} {M : MI} {y : MethodName} {as : List Value} {κ : AH} {Q Q' : Option Value → AH → Prop} {QX QX' : String → AH → Prop} (H : CYV w y M as κ Q QX) (hq : ∀ v κ', Q v κ' → Q' v κ') (hx : ∀ E κ', QX E κ' → QX' E κ') : CYV w y M as κ Q' QX' := fun θ h hN hK => (H θ h hN hK).mono (fun v h' ⟨θ', v', κ', a, b, c, d, e⟩ => ⟨θ', v', κ', a, b, c, d, hq v' κ' e⟩) (fun E h' ⟨θ', κ', a, b, c⟩ => ⟨θ', κ', a, b, hx E κ' c⟩)
def ok (κ0 : AH) (a : Int32 × MS) (v : Option Value) (κ' : AH) : Prop := a.2.1 34 = 0 ∧ v = some (.int a.1) ∧ RE κ0 κ' a.2
theorem RE_34 {κ0 κ : AH} {σ : MS} {nb nw np : Nat} {wb : Nat → Nat} (h : RI κ0 κ σ nb nw np wb) (c : Int32) : RE κ0 κ (upS σ 34 c) := ⟨nb, nw, np, wb, s_34 h⟩
theorem toN_le {x y : Int32} (h0 : 0 ≤ x) (h : x ≤ y) : x.toNatClampNeg ≤ y.toNatClampNeg := by
  rw [Int32.le_iff_toInt_le] at h0 h
  rw [Int32.toNatClampNeg, Int32.toNatClampNeg]
  omega
theorem isB_nI {nb : Nat} (hn : nb ≤ 100) {x : Int32} (h : isB nb x) : x.toNatClampNeg < nb ∧ x = nI x.toNatClampNeg := by
  have h2 := Int32.lt_iff_toInt_lt.mp h.2
  rw [nI_toInt (by omega)] at h2
  have hv : vp_in x nb := in_of h.1 h2
  exact ⟨lt_of_in hv, in_n hv⟩
theorem wd_in {y : Int32} (h : isWdr y) : vp_in y 4 := in_c (c := 3) (n := 4) (by decide) h
theorem cB0 {σ : MS} {f l v t e g : Int32} (h : cBlock σ f l v t e g = 0) : okB1 f l v ∧ okB2 f l t e g ∧ okB3 σ := by
  unfold cBlock at h
  split at h
  · split at h
    · split at h
      · exact ⟨by assumption, by assumption, by assumption⟩
      · exact absurd h (by decide)
    · exact absurd h (by decide)
  · exact absurd h (by decide)
theorem upA_cm {σ : MS} {k k' i i' : Nat} {v v' : Int32} (h : k ≠ k') : upA (upA σ k i v) k' i' v' = upA (upA σ k' i' v') k i v := by
  refine Prod.ext rfl (funext fun j => funext fun n => ?_)
  show (if j = k' ∧ n = i' then v' else if j = k ∧ n = i then v else σ.2 j n) = if j = k ∧ n = i then v else if j = k' ∧ n = i' then v' else σ.2 j n
  by_cases e : j = k' ∧ n = i'
  · rw [if_pos e, if_neg (fun z => h (z.1.symm.trans e.1)), if_pos e]
  · rw [if_neg e, if_neg e]
theorem sJ_jn {σ : MS} {nb : Nat} {x y : Int32} (e8 : σ.1 8 = nI nb) (hn : nb ≤ 60) : sJoin2 σ x y = jnS σ nb x y := by
  unfold sJoin2 jnS prS
  rw [sAdds_nb e8 hn, e8, upA_cm (k := 17) (k' := 9) (by decide)]
theorem s_join {κ0 κ : AH} {σ : MS} {nb nw np : Nat} {wb : Nat → Nat} (h : RI κ0 κ σ nb nw np wb) {x y z : Int32} (hk : kJoin σ x y z = 0) (hbx : isB nb x) (hby : isB nb y) (hz : isWdr z) : RI κ0 (jnH κ σ nb nw x y z) (sMak (sJoin2 σ x y) (σ.1 8) ((sJoin2 σ x y).2 10 y.toNatClampNeg) ((sJoin2 σ x y).2 12 x.toNatClampNeg) z.toNatClampNeg) (nb + 1) (nw + 1) np (fun k => if k = nw then nb else wb k) := by
  obtain ⟨I, C, F⟩ := h
  have h8 := I.n8
  obtain ⟨hcj, h60, h100⟩ := kJ0 hk
  have hx := isB_cl (nb := nb) (by omega) hbx
  have hy := isB_cl (nb := nb) (by omega) hby
  obtain ⟨hnb, hnw, hxy, JX, -, -, -⟩ := jn_pre I C hx hy hcj h60 h100
  have J : IV (jnS σ nb x y) (nb + 1) nw np := jn_iv I hx hy hcj h60
  rw [kp_pr, kp_pr] at JX
  have g1 : σ.2 9 x.toNatClampNeg = 0 := hcj.1.1
  have g2 : σ.2 9 y.toNatClampNeg = 0 := hcj.1.2.1
  have w : tnsN (jnS σ nb x y) (nb + 1) = tnsN σ nb ∧ momN (jnS σ nb x y) (nb + 1) = momN σ nb ∧ nEn (jnS σ nb x y) (nb + 1) nw = nEn σ nb nw := by
    unfold jnS
    refine ⟨?_, ?_, ?_⟩
    · rw [(tns_pr (by rw [prS_9, if_neg hxy, nbS_o (by omega)]; exact g2)).1, (tns_pr (by rw [nbS_o (by omega)]; exact g1)).1, tns_nb.1]
    · rw [(tns_pr (by rw [prS_9, if_neg hxy, nbS_o (by omega)]; exact g2)).2, (tns_pr (by rw [nbS_o (by omega)]; exact g1)).2, tns_nb.2]
    · rw [nEn_pr (by rw [prS_9, if_neg hxy, nbS_o (by omega)]; exact g2), nEn_pr (by rw [nbS_o (by omega)]; exact g1), nEn_nb]
  have e10 : (jnS σ nb x y).2 10 y.toNatClampNeg = σ.2 10 y.toNatClampNeg := by
    unfold jnS; rw [prS_row (by decide) (by decide), prS_row (by decide) (by decide), nbS_o (by omega)]
  have e12 : (jnS σ nb x y).2 12 x.toNatClampNeg = σ.2 12 x.toNatClampNeg := by
    unfold jnS; rw [prS_row (by decide) (by decide), prS_row (by decide) (by decide), nbS_o (by omega)]
  have e12n : (jnS σ nb x y).2 12 nb = σ.2 12 x.toNatClampNeg := by
    unfold jnS; rw [prS_row (by decide) (by decide), prS_row (by decide) (by decide)]; exact nbS_n.2.2.2.1
  have e9n : (jnS σ nb x y).2 9 nb = 0 := by
    unfold jnS; rw [prS_9, if_neg (by omega), prS_9, if_neg (by omega)]; exact nbS_n.1
  have hf := (jn_fl I hx hy hcj).2
  have hv := (I.bk _ hx).1.2.2.2
  rw [sJ_jn I.e8 I.n8, I.e8, e10, e12]
  have X := x_mwN JX J.e18 hnw J.n8 (show nb < nb + 1 by omega) (wd_in hz) e12n hf hv (by rw [show (prS (prS (nbS σ nb _ _ _ _ _ _) x.toNatClampNeg nb) y.toNatClampNeg nb).2 9 nb = 0 from e9n]; decide) ((J.bk nb (by omega)).2.2 (Or.inl e9n))
  obtain ⟨a1, a2, a3, a4, a5⟩ := mk_all (b := nI nb) (f := σ.2 10 y.toNatClampNeg) (v := σ.2 12 x.toNatClampNeg) (y := z.toNatClampNeg) J hnw hf hv
  refine ⟨a1, RX_RC X ?_ ?_ ?_ ?_, ?_⟩
  · rw [show tnsN (sMak (jnS σ nb x y) (nI nb) (σ.2 10 y.toNatClampNeg) (σ.2 12 x.toNatClampNeg) z.toNatClampNeg) (nb + 1) = _ from a2, w.1]
  · rw [show momN (sMak (jnS σ nb x y) (nI nb) (σ.2 10 y.toNatClampNeg) (σ.2 12 x.toNatClampNeg) z.toNatClampNeg) (nb + 1) = _ from a3, w.2.1]
  · rw [show nEn (sMak (jnS σ nb x y) (nI nb) (σ.2 10 y.toNatClampNeg) (σ.2 12 x.toNatClampNeg) z.toNatClampNeg) (nb + 1) (nw + 1) = _ from a4, w.2.2]
  · rw [show (sMak (jnS σ nb x y) (nI nb) (σ.2 10 y.toNatClampNeg) (σ.2 12 x.toNatClampNeg) z.toNatClampNeg).1 7 = _ from a5]; rfl
  · have D : ∀ κ a, Dif (fun t => ∃ i, t = tB i) κ (prH κ a nb) := fun κ a => by
      unfold prH
      exact (Dif.rfl'.sI ⟨_, rfl⟩).sR ⟨_, rfl⟩
    exact (((F.tr (FM_d nb_D (fun i => by simp [tB_inj, tB_W, tB_R, tB_P, tB_C, tB_S, tW_inj, tW_B, tW_R, tW_P, tW_C, tW_S, tR_inj, tR_B, tR_W, tR_P, tR_C, tR_S, tP_inj, tP_B, tP_W, tP_R, tP_C, tP_S, tC_inj, tC_B, tC_W, tC_R, tC_P, tC_S, tS_inj, tS_B, tS_W, tS_R, tS_P, tS_C, tM_inj, tM_B, tM_W, tM_R, tM_P, tM_C, tM_S, tB_M, tW_M, tR_M, tP_M, tC_M, tS_M]))).tr (FM_d (D _ _) (fun i => by simp [tB_inj, tB_W, tB_R, tB_P, tB_C, tB_S, tW_inj, tW_B, tW_R, tW_P, tW_C, tW_S, tR_inj, tR_B, tR_W, tR_P, tR_C, tR_S, tP_inj, tP_B, tP_W, tP_R, tP_C, tP_S, tC_inj, tC_B, tC_W, tC_R, tC_P, tC_S, tS_inj, tS_B, tS_W, tS_R, tS_P, tS_C, tM_inj, tM_B, tM_W, tM_R, tM_P, tM_C, tM_S, tB_M, tW_M, tR_M, tP_M, tC_M, tS_M]))).tr (FM_d (D _ _) (fun i => by simp [tB_inj, tB_W, tB_R, tB_P, tB_C, tB_S, tW_inj, tW_B, tW_R, tW_P, tW_C, tW_S, tR_inj, tR_B, tR_W, tR_P, tR_C, tR_S, tP_inj, tP_B, tP_W, tP_R, tP_C, tP_S, tC_inj, tC_B, tC_W, tC_R, tC_P, tC_S, tS_inj, tS_B, tS_W, tS_R, tS_P, tS_C, tM_inj, tM_B, tM_W, tM_R, tM_P, tM_C, tM_S, tB_M, tW_M, tR_M, tP_M, tC_M, tS_M]))).tr FM_mw
theorem sEr_34 {σ : MS} {i y : Nat} {b a c : Int32} : (sEr σ i b a c y).1 34 = σ.1 34 := by
  have d : ∀ (τ : MS) f v a, (erD τ f v a y).1 34 = τ.1 34 := fun τ f v a => by
    unfold erD
    split
    · show (sMak τ (-1) f v y).1 34 = _
      rw [sMak_num (by decide) (by decide) (by decide)]
    · rfl
  unfold sEr
  rw [d, d, erC_num (by decide)]
theorem k_hall {w : W0} {κ0 κ : AH} {σ : MS} {nb nw np : Nat} {wb : Nat → Nat} (h : RI κ0 κ σ nb nw np wb) {f t : Int32} : CYV w yX8_hall mX8_hall [.ref (tS 4), .int f, .int t] κ (fun v κ' => ok κ0 (mHall σ f t) v κ') (fun E κ' => RE κ0 κ' (mHall σ f t).2 ∧ (((mHall σ f t).2.1 34 = 1 ∧ E = "java/lang/IllegalArgumentException"))) := by
  obtain ⟨I, C, F⟩ := id h
  have hN := C.2.1
  refine (c_X8_hall (σ := σ) C.1).mono (fun v κ' q => ?_) (fun E κ' q => ?_)
  · obtain ⟨c, rfl, rfl⟩ := q
    unfold mHall ok
    rw [if_pos c]
    exact ⟨rfl, by rw [hN.2.1.1], _, _, _, _, s_hall h c.2.2⟩
  · obtain ⟨rfl, c, rfl⟩ := q
    unfold mHall
    rw [if_neg c]
    exact ⟨RE_34 h 1, rfl, rfl⟩
theorem k_crane {w : W0} {κ0 κ : AH} {σ : MS} {nb nw np : Nat} {wb : Nat → Nat} (h : RI κ0 κ σ nb nw np wb) {f t : Int32} : CYV w yX8_crane mX8_crane [.ref (tS 4), .int f, .int t] κ (fun v κ' => ok κ0 (mCrane σ f t) v κ') (fun E κ' => RE κ0 κ' (mCrane σ f t).2 ∧ (((mCrane σ f t).2.1 34 = 1 ∧ E = "java/lang/IndexOutOfBoundsException") ∨ ((mCrane σ f t).2.1 34 = 2 ∧ E = "java/lang/IllegalArgumentException"))) := by
  obtain ⟨I, C, F⟩ := id h
  have hN := C.2.1
  refine (c_X8_crane (σ := σ) C.1).mono (fun v κ' q => ?_) (fun E κ' q => ?_)
  · obtain ⟨c, rfl, rfl⟩ := q
    unfold mCrane ok
    rw [if_neg (fun z => z c.1), if_neg (fun z => z c.2)]
    exact ⟨rfl, by rw [hN.2.1.2.2.2.1], _, _, _, _, s_crane h c.1⟩
  · obtain ⟨rfl, ⟨c, rfl⟩ | ⟨c, rfl⟩⟩ := q
    · unfold mCrane
      rw [if_pos c]
      exact ⟨RE_34 h 1, Or.inl ⟨rfl, rfl⟩⟩
    · unfold mCrane
      rw [if_neg (fun z => z c.1), if_pos c.2]
      exact ⟨RE_34 h 2, Or.inr ⟨rfl, rfl⟩⟩
theorem k_welder {w : W0} {κ0 κ : AH} {σ : MS} {nb nw np : Nat} {wb : Nat → Nat} (h : RI κ0 κ σ nb nw np wb) {y f : Int32} : CYV w yX8_welder mX8_welder [.ref (tS 4), .int y, .int f] κ (fun v κ' => ok κ0 (mWelder σ y f) v κ') (fun E κ' => RE κ0 κ' (mWelder σ y f).2 ∧ (((mWelder σ y f).2.1 34 = 1 ∧ E = "java/lang/IndexOutOfBoundsException") ∨ ((mWelder σ y f).2.1 34 = 2 ∧ E = "java/lang/IllegalArgumentException"))) := by
  obtain ⟨I, C, F⟩ := id h
  have hN := C.2.1
  refine (c_X8_welder (σ := σ) C.1).mono (fun v κ' q => ?_) (fun E κ' q => ?_)
  · obtain ⟨c, rfl, rfl⟩ := q
    unfold mWelder ok
    rw [if_neg (fun z => z c.1), if_neg (fun z => z c.2)]
    exact ⟨rfl, by rw [hN.2.2.2 _ (in_lt4 (wd_in c.1) (by decide))], _, _, _, _, s_welder h⟩
  · obtain ⟨rfl, ⟨c, rfl⟩ | ⟨c, rfl⟩⟩ := q
    · unfold mWelder
      rw [if_pos c]
      exact ⟨RE_34 h 1, Or.inl ⟨rfl, rfl⟩⟩
    · unfold mWelder
      rw [if_neg (fun z => z c.1), if_pos c.2]
      exact ⟨RE_34 h 2, Or.inr ⟨rfl, rfl⟩⟩
theorem k_draw {w : W0} {κ0 κ : AH} {σ : MS} {nb nw np : Nat} {wb : Nat → Nat} (h : RI κ0 κ σ nb nw np wb) {x : Int32} : CY w yX8_draw mX8_draw [.ref (tS 4), .int x] κ (fun v κ' => ok κ0 (mDraw σ x) v κ') := by
  obtain ⟨I, C, F⟩ := id h
  have hN := C.2.1
  refine (c_X8_draw (σ := σ) C.1).mono (fun v κ' q => ?_)
  obtain ⟨rfl, rfl⟩ := q
  exact ⟨rfl, by rw [hN.2.2.1]; rfl, _, _, _, _, s_draw h⟩
theorem k_block {w : W0} {κ0 κ : AH} {σ : MS} {nb nw np : Nat} {wb : Nat → Nat} (h : RI κ0 κ σ nb nw np wb) {f l v0 t e g : Int32} : CYV w yX8_block mX8_block [.ref (tS 4), .int f, .int l, .int v0, .int t, .int e, .int g] κ (fun v κ' => ok κ0 (mBlock σ f l v0 t e g) v κ') (fun E κ' => RE κ0 κ' (mBlock σ f l v0 t e g).2 ∧ (((mBlock σ f l v0 t e g).2.1 34 = 1 ∧ E = "java/lang/IndexOutOfBoundsException") ∨ ((mBlock σ f l v0 t e g).2.1 34 = 2 ∧ E = "java/lang/IllegalArgumentException") ∨ ((mBlock σ f l v0 t e g).2.1 34 = 3 ∧ E = "java/lang/IllegalStateException"))) := by
  obtain ⟨I, C, F⟩ := id h
  have hN := C.2.1
  refine (c_X8_block I.n8 I.e8 C.1 hN C.2.2.1).mono (fun v κ' q => ?_) (fun E κ' q => ?_)
  · obtain ⟨c, rfl, rfl⟩ := q
    obtain ⟨o1, o2, o3⟩ := cB0 c
    have hnb : nb < 60 := (n60 I.n8).2.mp (by rw [← I.e8]; exact o3.1)
    unfold mBlock ok
    rw [if_pos c, sAdds_nb (show (upS σ 34 0).1 8 = nI nb from I.e8) I.n8]
    exact ⟨nbS_num (by decide), by rw [I.e8], _, _, _, _, s_block (s_34 h) hnb o1.1 o1.2.1 (toN_le o1.1.1 o2.1) o1.2.2 ⟨Int32.le_trans (by decide) o2.2.1.1, Int32.le_trans o2.2.1.2 (by decide)⟩⟩
  · obtain ⟨rfl, q⟩ := q
    rcases q with ⟨c, rfl⟩ | ⟨c, rfl⟩ | ⟨c, rfl⟩
    · unfold mBlock
      rw [if_neg (by rw [c]; decide), c]
      exact ⟨RE_34 h 1, Or.inl ⟨rfl, rfl⟩⟩
    · unfold mBlock
      rw [if_neg (by rw [c]; decide), c]
      exact ⟨RE_34 h 2, Or.inr (Or.inl ⟨rfl, rfl⟩)⟩
    · unfold mBlock
      rw [if_neg (by rw [c]; decide), c]
      exact ⟨RE_34 h 3, Or.inr (Or.inr ⟨rfl, rfl⟩)⟩
theorem k_join {w : W0} {κ0 κ : AH} {σ : MS} {nb nw np : Nat} {wb : Nat → Nat} (h : RI κ0 κ σ nb nw np wb) {x y z : Int32} : CYV w yX8_join mX8_join [.ref (tS 4), .int x, .int y, .int z] κ (fun v κ' => ok κ0 (mJoin σ x y z) v κ') (fun E κ' => RE κ0 κ' (mJoin σ x y z).2 ∧ (((mJoin σ x y z).2.1 34 = 1 ∧ E = "java/lang/IndexOutOfBoundsException") ∨ ((mJoin σ x y z).2.1 34 = 2 ∧ E = "java/lang/IllegalStateException"))) := by
  obtain ⟨I, C, F⟩ := id h
  have hN := C.2.1
  obtain ⟨I0, C0, F0⟩ := id (s_34 (c := 0) h)
  have e : kJoin (upS σ 34 0) x y z = kJoin σ x y z := rfl
  have hN8 := I.n8
  refine (c_X8_join (x := x) (y := y) (z := z) I0 C0).mono (fun v κ' q => ?_) (fun E κ' q => ?_)
  · obtain ⟨c, rfl, rfl⟩ := q
    have c2 := c
    rw [e] at c
    unfold kJoin at c2
    have hcond : isBlk σ x ∧ isBlk σ y ∧ isWdr z := by
      refine Classical.byContradiction fun z9 => ?_
      unfold kJoin at c
      rw [if_neg z9] at c
      exact absurd c (by decide)
    have q := s_join (s_34 (c := 0) h) (x := x) (y := y) (z := z) (e.trans c) ((isB_blk I.n8 I.e8).mp hcond.1) ((isB_blk I.n8 I.e8).mp hcond.2.1) hcond.2.2
    unfold mJoin ok
    rw [if_pos c]
    refine ⟨?_, by rw [I.e8], _, _, _, _, q⟩
    show (sMak _ _ _ _ _).1 34 = 0
    rw [sMak_num (by decide) (by decide) (by decide)]
    rfl
  · rw [e] at q
    obtain ⟨rfl, q⟩ := q
    rcases q with ⟨c, rfl⟩ | ⟨c, rfl⟩
    · unfold mJoin
      rw [if_neg (by rw [c]; decide), c]
      exact ⟨RE_34 h 1, Or.inl ⟨rfl, rfl⟩⟩
    · unfold mJoin
      rw [if_neg (by rw [c]; decide), c]
      exact ⟨RE_34 h 2, Or.inr ⟨rfl, rfl⟩⟩
theorem k_erect {w : W0} {κ0 κ : AH} {σ : MS} {nb nw np : Nat} {wb : Nat → Nat} (h : RI κ0 κ σ nb nw np wb) {x z : Int32} : CYV w yX8_erect mX8_erect [.ref (tS 4), .int x, .int z] κ (fun v κ' => ok κ0 (mEr σ x z) v κ') (fun E κ' => RE κ0 κ' (mEr σ x z).2 ∧ (((mEr σ x z).2.1 34 = 1 ∧ E = "java/lang/IndexOutOfBoundsException") ∨ ((mEr σ x z).2.1 34 = 2 ∧ E = "java/lang/IllegalStateException"))) := by
  obtain ⟨I, C, F⟩ := id h
  have hN := C.2.1
  have h0 := s_34 (c := 0) h
  have e : kEr (upS σ 34 0) x z = kEr σ x z := rfl
  have eA : nbA (upS σ 34 0) x.toNatClampNeg = nbA σ x.toNatClampNeg := rfl
  have eB : nbB (upS σ 34 0) x.toNatClampNeg = nbB σ x.toNatClampNeg := rfl
  have key : CYV w yX8_erect mX8_erect [.ref (tS 4), .int x, .int z] κ (fun v' κ' => kEr (upS σ 34 0) x z = 0 ∧ v' = some (.int (cutE (upS σ 34 0) x.toNatClampNeg (nbA (upS σ 34 0) x.toNatClampNeg) (nbB (upS σ 34 0) x.toNatClampNeg))) ∧ RE κ0 κ' (sEr (upS σ 34 0) x.toNatClampNeg x (nbA (upS σ 34 0) x.toNatClampNeg) (nbB (upS σ 34 0) x.toNatClampNeg) z.toNatClampNeg)) (fun E κ' => κ' = κ ∧ ((kEr (upS σ 34 0) x z = 1 ∧ E = "java/lang/IndexOutOfBoundsException") ∨ (kEr (upS σ 34 0) x z = 2 ∧ E = "java/lang/IllegalStateException"))) := by
    by_cases ha : nbA (upS σ 34 0) x.toNatClampNeg = -1 <;> by_cases hc : nbB (upS σ 34 0) x.toNatClampNeg = -1
    · exact e00_erect h0 ha hc
    · exact e01_erect h0 ha hc
    · exact e10_erect h0 ha hc
    · exact e11_erect h0 ha hc
  rw [e, eA, eB] at key
  refine key.mono (fun v κ' q => ?_) (fun E κ' q => ?_)
  · obtain ⟨c, rfl, q⟩ := q
    unfold mEr ok
    rw [if_pos c]
    exact ⟨sEr_34, rfl, q⟩
  · obtain ⟨rfl, q⟩ := q
    rcases q with ⟨c, rfl⟩ | ⟨c, rfl⟩
    · unfold mEr
      rw [if_neg (by rw [c]; decide), c]
      exact ⟨RE_34 h 1, Or.inl ⟨rfl, rfl⟩⟩
    · unfold mEr
      rw [if_neg (by rw [c]; decide), c]
      exact ⟨RE_34 h 2, Or.inr ⟨rfl, rfl⟩⟩
theorem k_scrap {w : W0} {κ0 κ : AH} {σ : MS} {nb nw np : Nat} {wb : Nat → Nat} (h : RI κ0 κ σ nb nw np wb) {b : Int32} : CYV w yX8_scrap mX8_scrap [.ref (tS 4), .int b] κ (fun v κ' => ok κ0 (mScr σ nb b) v κ') (fun E κ' => RE κ0 κ' (mScr σ nb b).2 ∧ (((mScr σ nb b).2.1 34 = 1 ∧ E = "java/lang/IndexOutOfBoundsException") ∨ ((mScr σ nb b).2.1 34 = 2 ∧ E = "java/lang/IllegalStateException"))) := by
  obtain ⟨I, C, F⟩ := id h
  have hN := C.2.1
  refine (c_X8_scrap I.n8 I.e8 C.1 C.2.2.2.2.1 C.2.2.1 I.ch).mono (fun v κ' q => ?_) (fun E κ' q => ?_)
  · obtain ⟨c, rfl, rfl⟩ := q
    have hcond : isBlk σ b ∧ σ.2 9 b.toNatClampNeg = 0 := by
      unfold kScr at c
      split at c
      · split at c
        · exact ⟨by assumption, by assumption⟩
        · exact absurd c (by decide)
      · exact absurd c (by decide)
    obtain ⟨hl, eb⟩ := isB_nI (by have := I.n8; omega) ((isB_blk I.n8 I.e8).mp hcond.1)
    have q := s_scrap (s_34 (c := 0) h) hl hcond.2
    rw [← eb, scH_cg (σ := σ) (σ' := upS σ 34 0) rfl] at q
    unfold mScr ok
    rw [if_pos c]
    exact ⟨rfl, rfl, _, _, _, _, q⟩
  · obtain ⟨rfl, q⟩ := q
    rcases q with ⟨c, rfl⟩ | ⟨c, rfl⟩
    · unfold mScr
      rw [if_neg (by rw [c]; decide), c]
      exact ⟨RE_34 h 1, Or.inl ⟨rfl, rfl⟩⟩
    · unfold mScr
      rw [if_neg (by rw [c]; decide), c]
      exact ⟨RE_34 h 2, Or.inr ⟨rfl, rfl⟩⟩
theorem k_test {w : W0} {κ0 κ : AH} {σ : MS} {nb nw np : Nat} {wb : Nat → Nat} (h : RI κ0 κ σ nb nw np wb) {b : Int32} : CYV w yX8_test mX8_test [.ref (tS 4), .int b] κ (fun v κ' => ok κ0 (mTest σ b) v κ') (fun E κ' => RE κ0 κ' (mTest σ b).2 ∧ (((mTest σ b).2.1 34 = 1 ∧ E = "java/lang/IndexOutOfBoundsException") ∨ ((mTest σ b).2.1 34 = 2 ∧ E = "java/lang/IllegalStateException"))) := by
  obtain ⟨I, C, F⟩ := id h
  have hN := C.2.1
  refine (c_X8_test I.n8 I.e8 C.1 C.2.2.2.2.1 C.2.2.1 I.n18 I.e18 C.2.2.2.1 I.ch I.sc).mono (fun v κ' q => ?_) (fun E κ' q => ?_)
  · obtain ⟨c, rfl, rfl⟩ := q
    unfold mTest ok
    rw [if_pos c]
    exact ⟨rfl, rfl, _, _, _, _, s_test h⟩
  · obtain ⟨rfl, q⟩ := q
    rcases q with ⟨c, rfl⟩ | ⟨c, rfl⟩
    · unfold mTest
      rw [if_neg (by rw [c]; decide), c]
      exact ⟨RE_34 h 1, Or.inl ⟨rfl, rfl⟩⟩
    · unfold mTest
      rw [if_neg (by rw [c]; decide), c]
      exact ⟨RE_34 h 2, Or.inr ⟨rfl, rfl⟩⟩
theorem k_repair {w : W0} {κ0 κ : AH} {σ : MS} {nb nw np : Nat} {wb : Nat → Nat} (h : RI κ0 κ σ nb nw np wb) {b y : Int32} : CYV w yX8_repair mX8_repair [.ref (tS 4), .int b, .int y] κ (fun v κ' => ok κ0 (mRep σ b y) v κ') (fun E κ' => RE κ0 κ' (mRep σ b y).2 ∧ (((mRep σ b y).2.1 34 = 1 ∧ E = "java/lang/IndexOutOfBoundsException") ∨ ((mRep σ b y).2.1 34 = 2 ∧ E = "java/lang/IllegalStateException"))) := by
  obtain ⟨I, C, F⟩ := id h
  have hN := C.2.1
  have kc : kRep σ b y = 0 → (isWld σ b ∧ isWdr y) ∧ ¬ σ.2 21 b.toNatClampNeg = 2 ∧ σ.1 6 = 0 := by
    intro c
    unfold kRep at c
    split at c
    · split at c
      · rename_i q1 q2
        exact ⟨q1, q2.2.2.1, q2.2.2.2⟩
      · exact absurd c (by decide)
    · exact absurd c (by decide)
  refine (c_X8_repair I.n8 I.e8 C.1 C.2.2.2.2.1 C.2.2.1 I.n18 I.e18 C.2.2.2.1 I.ch I.sc hN I.rp (n := nEn σ nb nw) (fun c => by have := I.le.2.2; have := I.n18; rw [(kc c).2.2, if_pos rfl] at *; omega) C.2.2.2.2.2.2.2.1).mono (fun v κ' q => ?_) (fun E κ' q => ?_)
  · obtain ⟨c, rfl, rfl⟩ := q
    obtain ⟨⟨c1, c2⟩, c3, c4⟩ := kc c
    obtain ⟨hl, eb⟩ := isB_nI I.n18 ((isB_wld I.n18 I.e18).mp c1)
    have q := s_repair (s_34 (c := 0) h) hl (wd_in c2) c3
    rw [wnH_cg (σ := σ) (σ' := upS σ 34 0) rfl rfl rfl, nEn_cg (σ := σ) (σ' := upS σ 34 0) rfl rfl rfl, ← eb] at q
    have hw := C.2.2.2.1.2.1 _ hl
    have ew := wnS_rep (σ := upS σ 34 0) (y := y) I.n8 (by have := I.n18; omega : b.toNatClampNeg < 2 ^ 31) (show wbK (upS σ 34 0) nb b.toNatClampNeg (wb b.toNatClampNeg) from hw.2)
    rw [← eb] at ew
    unfold mRep ok
    rw [if_pos c]
    refine ⟨?_, ?_, _, _, _, _, q⟩
    · show (sRep3 (upS σ 34 0) b y.toNatClampNeg).1 34 = 0
      rw [← ew, wnS_num (by decide), rpS_num (by decide)]
      rfl
    · show _ = some (Value.int ((sRep3 (upS σ 34 0) b y.toNatClampNeg).2 21 b.toNatClampNeg))
      rw [← ew, wnS_row (by decide) (by decide) (by decide), rpS_21]
      rfl
  · obtain ⟨rfl, q⟩ := q
    rcases q with ⟨c, rfl⟩ | ⟨c, rfl⟩
    · unfold mRep
      rw [if_neg (by rw [c]; decide), c]
      exact ⟨RE_34 h 1, Or.inl ⟨rfl, rfl⟩⟩
    · unfold mRep
      rw [if_neg (by rw [c]; decide), c]
      exact ⟨RE_34 h 2, Or.inr ⟨rfl, rfl⟩⟩
theorem k_hole {w : W0} {κ0 κ : AH} {σ : MS} {nb nw np : Nat} {wb : Nat → Nat} (h : RI κ0 κ σ nb nw np wb) {x u : Int32} : CYV w yX8_hole mX8_hole [.ref (tS 4), .int x, .int u] κ (fun v κ' => ok κ0 (mHole σ x u) v κ') (fun E κ' => RE κ0 κ' (mHole σ x u).2 ∧ (((mHole σ x u).2.1 34 = 1 ∧ E = "java/lang/IndexOutOfBoundsException") ∨ ((mHole σ x u).2.1 34 = 2 ∧ E = "java/lang/IllegalStateException"))) := by
  obtain ⟨I, C, F⟩ := id h
  have hN := C.2.1
  refine (c_X8_hole I.n8 I.e8 C.1 C.2.2.2.2.1 C.2.2.1 hN I.lv).mono (fun v κ' q => ?_) (fun E κ' q => ?_)
  · obtain ⟨c, rfl, rfl⟩ := q
    have hc : hR σ x u := by
      unfold kHole at c
      split at c
      · assumption
      · exact absurd c (by decide)
    obtain ⟨hx1, hx2, hx3⟩ := hc
    obtain ⟨fx, ex⟩ := isRm_c hx1
    obtain ⟨fy, ey⟩ := isRm_c hx3
    have key : ∃ s, (s = 1 ∨ s = 3) ∧ (oth x u).toNatClampNeg = stp x.toNatClampNeg s ∧ bitU u = pw s ∧ bitU u / 2 = pw (opS s) := by
      by_cases hu : u = 0
      · refine ⟨1, Or.inl rfl, ?_, ?_, ?_⟩
        · have e : oth x u = nI (x.toNatClampNeg + 1) := by
            unfold oth
            rw [if_neg (fun z => z hu)]
            conv => lhs; rw [ex]
            exact nI_1 _
          rw [e, nI_clamp (by have := fx.1; omega)]
          simp [stp]
        · unfold bitU; rw [if_neg (fun z => z hu)]; rfl
        · unfold bitU; rw [if_neg (fun z => z hu)]; rfl
      · refine ⟨3, Or.inr rfl, ?_, ?_, ?_⟩
        · have e : oth x u = nI (x.toNatClampNeg + 12) := by
            unfold oth
            rw [if_pos hu]
            conv => lhs; rw [ex]
            exact nI_12 _
          rw [e, nI_clamp (by have := fx.1; omega)]
          simp [stp]
        · unfold bitU; rw [if_pos hu]; rfl
        · unfold bitU; rw [if_pos hu]; rfl
    obtain ⟨s, hs, e1, e2, e3⟩ := key
    rw [e1] at fy
    have q := s_hole (s_34 (c := 0) h) hs fx.1 fy.1 fx.2 fy.2
    have eH : hoH κ σ x u = (sI (sI (sI (sI κ (tR x.toNatClampNeg) 5 ((upS σ 34 0).2 29 x.toNatClampNeg ||| pw s)) (tR (stp x.toNatClampNeg s)) 5 ((upS σ 34 0).2 29 (stp x.toNatClampNeg s) ||| pw (opS s))) (tR x.toNatClampNeg) 2 0) (tR (stp x.toNatClampNeg s)) 2 0) := by
      unfold hoH
      rw [e1, e2, ← e2, e3]
      rw [e2]
      rfl
    have hne : ¬ stp x.toNatClampNeg s = x.toNatClampNeg := by rcases hs with rfl | rfl <;> simp [stp]
    have eS : sHole (upS σ 34 0) x u = hoS (upS σ 34 0) x.toNatClampNeg (stp x.toNatClampNeg s) s := by
      unfold sHole hoS
      have e4 : (upA (upS σ 34 0) 29 x.toNatClampNeg ((upS σ 34 0).2 29 x.toNatClampNeg ||| bitU u)).2 29 (stp x.toNatClampNeg s) = (upS σ 34 0).2 29 (stp x.toNatClampNeg s) := by simp [upA, hne]
      rw [e1, e4, e3, e2]
    rw [← eH, ← eS] at q
    unfold mHole ok
    rw [if_pos c]
    exact ⟨rfl, rfl, _, _, _, _, q⟩
  · obtain ⟨rfl, q⟩ := q
    rcases q with ⟨c, rfl⟩ | ⟨c, rfl⟩
    · unfold mHole
      rw [if_neg (by rw [c]; decide), c]
      exact ⟨RE_34 h 1, Or.inl ⟨rfl, rfl⟩⟩
    · unfold mHole
      rw [if_neg (by rw [c]; decide), c]
      exact ⟨RE_34 h 2, Or.inr ⟨rfl, rfl⟩⟩
theorem k_paint {w : W0} {κ0 κ : AH} {σ : MS} {nb nw np : Nat} {wb : Nat → Nat} (h : RI κ0 κ σ nb nw np wb) {x : Int32} : CYV w yX8_paint mX8_paint [.ref (tS 4), .int x] κ (fun v κ' => ok κ0 (mPai σ x) v κ') (fun E κ' => RE κ0 κ' (mPai σ x).2 ∧ (((mPai σ x).2.1 34 = 1 ∧ E = "java/lang/IndexOutOfBoundsException") ∨ ((mPai σ x).2.1 34 = 2 ∧ E = "java/lang/IllegalStateException"))) := by
  obtain ⟨I, C, F⟩ := id h
  have hN := C.2.1
  refine (c_X8_paint I.n8 I.e8 C.1 C.2.2.2.2.1 C.2.2.1 I.em).mono (fun v κ' q => ?_) (fun E κ' q => ?_)
  · obtain ⟨c, rfl, rfl⟩ := q
    have hc : isRm σ x := by
      unfold kPai at c
      split at c
      · assumption
      · exact absurd c (by decide)
    unfold mPai ok
    rw [if_pos c]
    exact ⟨rfl, rfl, _, _, _, _, s_paint h hc.2⟩
  · obtain ⟨rfl, q⟩ := q
    rcases q with ⟨c, rfl⟩ | ⟨c, rfl⟩
    · unfold mPai
      rw [if_neg (by rw [c]; decide), c]
      exact ⟨RE_34 h 1, Or.inl ⟨rfl, rfl⟩⟩
    · unfold mPai
      rw [if_neg (by rw [c]; decide), c]
      exact ⟨RE_34 h 2, Or.inr ⟨rfl, rfl⟩⟩
theorem k_fit {w : W0} {κ0 κ : AH} {σ : MS} {nb nw np : Nat} {wb : Nat → Nat} (h : RI κ0 κ σ nb nw np wb) {x t : Int32} : CYV w yX8_fit mX8_fit [.ref (tS 4), .int x, .int t] κ (fun v κ' => ok κ0 (mFit σ x t) v κ') (fun E κ' => RE κ0 κ' (mFit σ x t).2 ∧ (((mFit σ x t).2.1 34 = 1 ∧ E = "java/lang/IndexOutOfBoundsException") ∨ ((mFit σ x t).2.1 34 = 2 ∧ E = "java/lang/IllegalArgumentException") ∨ ((mFit σ x t).2.1 34 = 3 ∧ E = "java/lang/IllegalStateException"))) := by
  obtain ⟨I, C, F⟩ := id h
  have hN := C.2.1
  refine (c_X8_fit I.n8 I.e8 C.1 C.2.2.2.2.1 C.2.2.1).mono (fun v κ' q => ?_) (fun E κ' q => ?_)
  · obtain ⟨c, rfl, rfl⟩ := q
    have hc : isRm σ x ∧ (1 ≤ t ∧ t ≤ 100) ∧ σ.2 27 x.toNatClampNeg + t ≤ 300 := by
      unfold kFit at c
      split at c
      · split at c
        · split at c
          · rename_i a1 a2 a3
            exact ⟨a1, a2, a3.2⟩
          · exact absurd c (by decide)
        · exact absurd c (by decide)
      · exact absurd c (by decide)
    obtain ⟨fx, ex⟩ := isRm_c hc.1
    have q := s_fit h (c := x.toNatClampNeg) (t := t) fx.1 fx.2 ⟨Int32.le_trans (by decide) hc.2.1.1, hc.2.1.2⟩ hc.2.2
    have e : x - x / 12 * 12 = nI (x.toNatClampNeg % 12) := by
      have := nI_rem12 x.toNatClampNeg fx.1
      rw [← ex] at this
      exact this
    unfold mFit ok
    rw [if_pos c, e]
    exact ⟨rfl, rfl, nb, nw, np, wb, q⟩
  · obtain ⟨rfl, q⟩ := q
    rcases q with ⟨c, rfl⟩ | ⟨c, rfl⟩ | ⟨c, rfl⟩
    · unfold mFit
      rw [if_neg (by rw [c]; decide), c]
      exact ⟨RE_34 h 1, Or.inl ⟨rfl, rfl⟩⟩
    · unfold mFit
      rw [if_neg (by rw [c]; decide), c]
      exact ⟨RE_34 h 2, Or.inr (Or.inl ⟨rfl, rfl⟩)⟩
    · unfold mFit
      rw [if_neg (by rw [c]; decide), c]
      exact ⟨RE_34 h 3, Or.inr (Or.inr ⟨rfl, rfl⟩)⟩
theorem k_pipe {w : W0} {κ0 κ : AH} {σ : MS} {nb nw np : Nat} {wb : Nat → Nat} (h : RI κ0 κ σ nb nw np wb) {x y : Int32} : CYV w yX8_pipe mX8_pipe [.ref (tS 4), .int x, .int y] κ (fun v κ' => ok κ0 (mPip σ x y) v κ') (fun E κ' => RE κ0 κ' (mPip σ x y).2 ∧ (((mPip σ x y).2.1 34 = 1 ∧ E = "java/lang/IndexOutOfBoundsException") ∨ ((mPip σ x y).2.1 34 = 2 ∧ E = "java/lang/IllegalArgumentException") ∨ ((mPip σ x y).2.1 34 = 3 ∧ E = "java/lang/IllegalStateException"))) := by
  obtain ⟨I, C, F⟩ := id h
  have hN := C.2.1
  have key : CYV w yX8_pipe mX8_pipe [.ref (tS 4), .int x, .int y] κ (fun v' κ' => kPip σ x y = 0 ∧ v' = some (.int (nI (dst σ (nI y.toNatClampNeg) x.toNatClampNeg + 1))) ∧ RE κ0 κ' (sPip σ x y)) (fun E κ' => (kPip σ x y = 1 ∧ E = "java/lang/IndexOutOfBoundsException" ∧ κ' = κ) ∨ (kPip σ x y = 2 ∧ E = "java/lang/IllegalArgumentException" ∧ κ' = κ) ∨ (kPip σ x y = 3 ∧ E = "java/lang/IllegalStateException" ∧ RE κ0 κ' (upS (wSt σ x y) 34 3))) := by
    by_cases hd : dst σ (nI y.toNatClampNeg) x.toNatClampNeg < 36
    · exact py_pipe h hd
    · exact pn_pipe h hd
  refine key.mono (fun v κ' q => ?_) (fun E κ' q => ?_)
  · obtain ⟨c, rfl, q⟩ := q
    have ey := (isRm_c (k0_of c).1.1.2).2
    unfold mPip ok
    rw [if_pos c]
    refine ⟨?_, by rw [← ey], q⟩
    rw [ppS_eq I.e30 I.n30, ppS_num (by decide)]
    rfl
  · rcases q with ⟨c, rfl, rfl⟩ | ⟨c, rfl, rfl⟩ | ⟨c, rfl, q⟩
    · have hr : ¬ rm2 σ x y := fun z => by
        unfold kPip at c
        rw [if_pos z.1, if_pos z.2] at c
        split at c <;> exact absurd c (by decide)
      unfold mPip wSt
      rw [if_neg (by rw [c]; decide), c, if_neg hr]
      exact ⟨RE_34 h 1, Or.inl ⟨rfl, rfl⟩⟩
    · have hr : ¬ rm2 σ x y := fun z => by
        unfold kPip at c
        rw [if_pos z.1, if_pos z.2] at c
        split at c <;> exact absurd c (by decide)
      unfold mPip wSt
      rw [if_neg (by rw [c]; decide), c, if_neg hr]
      exact ⟨RE_34 h 2, Or.inr (Or.inl ⟨rfl, rfl⟩)⟩
    · unfold mPip
      rw [if_neg (by rw [c]; decide), c]
      exact ⟨q, Or.inr (Or.inr ⟨rfl, rfl⟩)⟩
theorem k_launch {w : W0} {κ0 κ : AH} {σ : MS} {nb nw np : Nat} {wb : Nat → Nat} (h : RI κ0 κ σ nb nw np wb) {t : Int32} : CYV w yX8_launch mX8_launch [.ref (tS 4), .int t] κ (fun v κ' => ok κ0 (mLau σ nb nw t) v κ') (fun E κ' => RE κ0 κ' (mLau σ nb nw t).2 ∧ (((mLau σ nb nw t).2.1 34 = 1 ∧ E = "java/lang/IllegalArgumentException") ∨ ((mLau σ nb nw t).2.1 34 = 2 ∧ E = "java/lang/IllegalStateException"))) := by
  obtain ⟨I, C, F⟩ := id h
  have hN := C.2.1
  have kc : kLau σ nb nw t = 0 → σ.1 6 = 0 := by
    intro c
    unfold kLau at c
    split at c
    · split at c
      · rename_i q1 q2
        exact (whlP_of.mp q2.1).1
      · exact absurd c (by decide)
    · exact absurd c (by decide)
  refine (c_X8_launch I.n8 I.e8 C.1 C.2.2.2.2.1 C.2.2.1 I.n18 I.e18 C.2.2.2.1 I.ch hN C.2.2.2.2.2.2.1 I.t0 (n := nEn σ nb nw) (fun c => by have := I.le.2.2; have := I.n18; rw [kc c, if_pos rfl] at *; omega) C.2.2.2.2.2.2.2.1 I.gb).mono (fun v κ' q => ?_) (fun E κ' q => ?_)
  · obtain ⟨c, rfl, rfl⟩ := q
    unfold mLau ok
    rw [if_pos c]
    exact ⟨rfl, rfl, _, _, _, _, s_launch h (kc c)⟩
  · obtain ⟨rfl, q⟩ := q
    rcases q with ⟨c, rfl⟩ | ⟨c, rfl⟩
    · unfold mLau
      rw [if_neg (by rw [c]; decide), c]
      exact ⟨RE_34 h 1, Or.inl ⟨rfl, rfl⟩⟩
    · unfold mLau
      rw [if_neg (by rw [c]; decide), c]
      exact ⟨RE_34 h 2, Or.inr ⟨rfl, rfl⟩⟩
theorem k_whyNot {w : W0} {κ0 κ : AH} {σ : MS} {nb nw np : Nat} {wb : Nat → Nat} (h : RI κ0 κ σ nb nw np wb) {b : Int32} : CYV w yX8_whyNot mX8_whyNot [.ref (tS 4), .int b] κ (fun v κ' => ok κ0 (mWhy σ b) v κ') (fun E κ' => RE κ0 κ' (mWhy σ b).2 ∧ (((mWhy σ b).2.1 34 = 1 ∧ E = "java/lang/IndexOutOfBoundsException"))) := by
  obtain ⟨I, C, F⟩ := id h
  have hN := C.2.1
  refine (c_X8_whyNot I.n8 I.e8 C.1 C.2.2.2.2.1 C.2.2.1 I.rs I.stF hN I.c2).mono (fun v κ' q => ?_) (fun E κ' q => ?_)
  · obtain ⟨c, rfl, rfl⟩ := q
    unfold mWhy ok
    rw [if_pos c]
    exact ⟨rfl, rfl, RE_34 h 0⟩
  · obtain ⟨rfl, q⟩ := q
    rcases q with ⟨c, rfl⟩
    · unfold mWhy
      rw [if_neg (by rw [c]; decide), c]
      exact ⟨RE_34 h 1, ⟨rfl, rfl⟩⟩
theorem k_told {w : W0} {κ0 κ : AH} {σ : MS} {nb nw np : Nat} {wb : Nat → Nat} (h : RI κ0 κ σ nb nw np wb) {b q0 : Int32} : CYV w yX8_told mX8_told [.ref (tS 4), .int b, .int q0] κ (fun v κ' => ok κ0 (mTold σ b q0) v κ') (fun E κ' => RE κ0 κ' (mTold σ b q0).2 ∧ (((mTold σ b q0).2.1 34 = 1 ∧ E = "java/lang/IndexOutOfBoundsException") ∨ ((mTold σ b q0).2.1 34 = 2 ∧ E = "java/lang/IllegalArgumentException"))) := by
  obtain ⟨I, C, F⟩ := id h
  have hN := C.2.1
  refine (c_X8_told I.n8 I.e8 C.1 C.2.2.2.2.1 C.2.2.1).mono (fun v κ' q => ?_) (fun E κ' q => ?_)
  · obtain ⟨c, rfl, rfl⟩ := q
    unfold mTold ok
    rw [if_pos c]
    exact ⟨rfl, rfl, RE_34 h 0⟩
  · obtain ⟨rfl, q⟩ := q
    rcases q with ⟨c, rfl⟩ | ⟨c, rfl⟩
    · unfold mTold
      rw [if_neg (by rw [c]; decide), c]
      exact ⟨RE_34 h 1, Or.inl ⟨rfl, rfl⟩⟩
    · unfold mTold
      rw [if_neg (by rw [c]; decide), c]
      exact ⟨RE_34 h 2, Or.inr ⟨rfl, rfl⟩⟩
theorem k_weld {w : W0} {κ0 κ : AH} {σ : MS} {nb nw np : Nat} {wb : Nat → Nat} (h : RI κ0 κ σ nb nw np wb) {b q0 : Int32} : CYV w yX8_weld mX8_weld [.ref (tS 4), .int b, .int q0] κ (fun v κ' => ok κ0 (mWeld σ b q0) v κ') (fun E κ' => RE κ0 κ' (mWeld σ b q0).2 ∧ (((mWeld σ b q0).2.1 34 = 1 ∧ E = "java/lang/IndexOutOfBoundsException") ∨ ((mWeld σ b q0).2.1 34 = 2 ∧ E = "java/lang/IllegalArgumentException"))) := by
  obtain ⟨I, C, F⟩ := id h
  have hN := C.2.1
  refine (c_X8_weld I.n8 I.e8 C.1 C.2.2.2.2.1 C.2.2.1 I.n18 I.e18 C.2.2.2.1).mono (fun v κ' q => ?_) (fun E κ' q => ?_)
  · obtain ⟨c, rfl, rfl⟩ := q
    unfold mWeld ok
    rw [if_pos c]
    exact ⟨rfl, rfl, RE_34 h 0⟩
  · obtain ⟨rfl, q⟩ := q
    rcases q with ⟨c, rfl⟩ | ⟨c, rfl⟩
    · unfold mWeld
      rw [if_neg (by rw [c]; decide), c]
      exact ⟨RE_34 h 1, Or.inl ⟨rfl, rfl⟩⟩
    · unfold mWeld
      rw [if_neg (by rw [c]; decide), c]
      exact ⟨RE_34 h 2, Or.inr ⟨rfl, rfl⟩⟩
theorem k_cell {w : W0} {κ0 κ : AH} {σ : MS} {nb nw np : Nat} {wb : Nat → Nat} (h : RI κ0 κ σ nb nw np wb) {x q0 : Int32} : CYV w yX8_cell mX8_cell [.ref (tS 4), .int x, .int q0] κ (fun v κ' => ok κ0 (mCell σ x q0) v κ') (fun E κ' => RE κ0 κ' (mCell σ x q0).2 ∧ (((mCell σ x q0).2.1 34 = 1 ∧ E = "java/lang/IndexOutOfBoundsException") ∨ ((mCell σ x q0).2.1 34 = 2 ∧ E = "java/lang/IllegalArgumentException"))) := by
  obtain ⟨I, C, F⟩ := id h
  have hN := C.2.1
  refine (c_X8_cell I.n8 I.e8 C.1 C.2.2.2.2.1 C.2.2.1 I.em).mono (fun v κ' q => ?_) (fun E κ' q => ?_)
  · obtain ⟨c, rfl, rfl⟩ := q
    unfold mCell ok
    rw [if_pos c]
    exact ⟨rfl, rfl, RE_34 h 0⟩
  · obtain ⟨rfl, q⟩ := q
    rcases q with ⟨c, rfl⟩ | ⟨c, rfl⟩
    · unfold mCell
      rw [if_neg (by rw [c]; decide), c]
      exact ⟨RE_34 h 1, Or.inl ⟨rfl, rfl⟩⟩
    · unfold mCell
      rw [if_neg (by rw [c]; decide), c]
      exact ⟨RE_34 h 2, Or.inr ⟨rfl, rfl⟩⟩
theorem k_roomAt {w : W0} {κ0 κ : AH} {σ : MS} {nb nw np : Nat} {wb : Nat → Nat} (h : RI κ0 κ σ nb nw np wb) {p q0 : Int32} : CYV w yX8_roomAt mX8_roomAt [.ref (tS 4), .int p, .int q0] κ (fun v κ' => ok κ0 (mRat σ p q0) v κ') (fun E κ' => RE κ0 κ' (mRat σ p q0).2 ∧ (((mRat σ p q0).2.1 34 = 1 ∧ E = "java/lang/IndexOutOfBoundsException"))) := by
  obtain ⟨I, C, F⟩ := id h
  have hN := C.2.1
  refine (c_X8_roomAt I.n30 I.e30 C.1 C.2.2.2.2.2.1 I.pl).mono (fun v κ' q => ?_) (fun E κ' q => ?_)
  · obtain ⟨c, rfl, rfl⟩ := q
    unfold mRat ok
    rw [if_pos c]
    exact ⟨rfl, rfl, RE_34 h 0⟩
  · obtain ⟨rfl, q⟩ := q
    rcases q with ⟨c, rfl⟩
    · unfold mRat
      rw [if_neg (by rw [c]; decide), c]
      exact ⟨RE_34 h 1, ⟨rfl, rfl⟩⟩
theorem k_water {w : W0} {κ0 κ : AH} {σ : MS} {nb nw np : Nat} {wb : Nat → Nat} (h : RI κ0 κ σ nb nw np wb) {x : Int32} : CYV w yX8_water mX8_water [.ref (tS 4), .int x] κ (fun v κ' => ok κ0 (mWater σ x) v κ') (fun E κ' => RE κ0 κ' (mWater σ x).2 ∧ (((mWater σ x).2.1 34 = 1 ∧ E = "java/lang/IllegalArgumentException"))) := by
  obtain ⟨I, C, F⟩ := id h
  have hN := C.2.1
  refine (c_X8_water (κ := κ)).mono (fun v κ' q => ?_) (fun E κ' q => ?_)
  · obtain ⟨c, rfl, rfl⟩ := q
    unfold mWater ok
    rw [if_pos c]
    exact ⟨rfl, rfl, RE_34 h 0⟩
  · obtain ⟨rfl, c, rfl⟩ := q
    unfold mWater
    rw [if_neg c]
    exact ⟨RE_34 h 1, rfl, rfl⟩
theorem k_blocks {w : W0} {κ0 κ : AH} {σ : MS} {nb nw np : Nat} {wb : Nat → Nat} (h : RI κ0 κ σ nb nw np wb) : CY w yX8_blocks mX8_blocks [.ref (tS 4)] κ (fun v κ' => ok κ0 ((σ.1 8, upS σ 34 0)) v κ') := by
  obtain ⟨I, C, F⟩ := id h
  have hN := C.2.1
  refine (c_X8_blocks (σ := σ) C.1).mono (fun v κ' q => ?_)
  obtain ⟨rfl, rfl⟩ := q
  exact ⟨rfl, by rw [hN.1.1], RE_34 h 0⟩
theorem k_welds {w : W0} {κ0 κ : AH} {σ : MS} {nb nw np : Nat} {wb : Nat → Nat} (h : RI κ0 κ σ nb nw np wb) : CY w yX8_welds mX8_welds [.ref (tS 4)] κ (fun v κ' => ok κ0 ((σ.1 18, upS σ 34 0)) v κ') := by
  obtain ⟨I, C, F⟩ := id h
  have hN := C.2.1
  refine (c_X8_welds (σ := σ) C.1).mono (fun v κ' q => ?_)
  obtain ⟨rfl, rfl⟩ := q
  exact ⟨rfl, by rw [hN.1.2.1], RE_34 h 0⟩
theorem k_isAfloat {w : W0} {κ0 κ : AH} {σ : MS} {nb nw np : Nat} {wb : Nat → Nat} (h : RI κ0 κ σ nb nw np wb) : CY w yX8_isAfloat mX8_isAfloat [.ref (tS 4)] κ (fun v κ' => ok κ0 ((σ.1 6, upS σ 34 0)) v κ') := by
  obtain ⟨I, C, F⟩ := id h
  have hN := C.2.1
  refine (c_X8_isAfloat C.1 hN I.l6).mono (fun v κ' q => ?_)
  obtain ⟨rfl, rfl⟩ := q
  exact ⟨rfl, rfl, RE_34 h 0⟩
theorem k_tons {w : W0} {κ0 κ : AH} {σ : MS} {nb nw np : Nat} {wb : Nat → Nat} (h : RI κ0 κ σ nb nw np wb) : CY w yX8_tons mX8_tons [.ref (tS 4)] κ (fun v κ' => ok κ0 ((tnsN σ nb, upS σ 34 0)) v κ') := by
  obtain ⟨I, C, F⟩ := id h
  have hN := C.2.1
  refine (c_X8_tons (σ := σ) C.1).mono (fun v κ' q => ?_)
  obtain ⟨rfl, rfl⟩ := q
  exact ⟨rfl, by rw [C.2.2.2.2.2.2.1.1], RE_34 h 0⟩
theorem k_tonsAnew {w : W0} {κ0 κ : AH} {σ : MS} {nb nw np : Nat} {wb : Nat → Nat} (h : RI κ0 κ σ nb nw np wb) : CY w yX8_tonsAnew mX8_tonsAnew [.ref (tS 4)] κ (fun v κ' => ok κ0 ((tnsN σ nb, upS σ 34 0)) v κ') := by
  obtain ⟨I, C, F⟩ := id h
  have hN := C.2.1
  refine (c_X8_tonsAnew I.n8 C.1 C.2.2.2.2.1 C.2.2.1).mono (fun v κ' q => ?_)
  obtain ⟨rfl, rfl⟩ := q
  exact ⟨rfl, by rw [I.ta], RE_34 h 0⟩
theorem k_centre {w : W0} {κ0 κ : AH} {σ : MS} {nb nw np : Nat} {wb : Nat → Nat} (h : RI κ0 κ σ nb nw np wb) : CY w yX8_centre mX8_centre [.ref (tS 4)] κ (fun v κ' => ok κ0 ((cenN σ nb, upS σ 34 0)) v κ') := by
  obtain ⟨I, C, F⟩ := id h
  have hN := C.2.1
  refine (c_X8_centre (σ := σ) C.1).mono (fun v κ' q => ?_)
  obtain ⟨rfl, rfl⟩ := q
  exact ⟨rfl, by rw [C.2.2.2.2.2.2.1.1, C.2.2.2.2.2.2.1.2, (gdp_eq I.t0).2.1], RE_34 h 0⟩
theorem k_draught {w : W0} {κ0 κ : AH} {σ : MS} {nb nw np : Nat} {wb : Nat → Nat} (h : RI κ0 κ σ nb nw np wb) {z : Int32} : CY w yX8_draught mX8_draught [.ref (tS 4), .int z] κ (fun v κ' => ok κ0 ((draN σ nb z, upS σ 34 0)) v κ') := by
  obtain ⟨I, C, F⟩ := id h
  have hN := C.2.1
  refine (c_X8_draught (σ := σ) C.1).mono (fun v κ' q => ?_)
  obtain ⟨rfl, rfl⟩ := q
  exact ⟨rfl, by rw [C.2.2.2.2.2.2.1.1, C.2.2.2.2.2.2.1.2, (gdp_eq I.t0).2.2], RE_34 h 0⟩
theorem k_firstHour {w : W0} {κ0 κ : AH} {σ : MS} {nb nw np : Nat} {wb : Nat → Nat} (h : RI κ0 κ σ nb nw np wb) : CY w yX8_firstHour mX8_firstHour [.ref (tS 4)] κ (fun v κ' => ok κ0 ((fhr σ nb nw 12, upS σ 34 0)) v κ') := by
  obtain ⟨I, C, F⟩ := id h
  have hN := C.2.1
  refine (c_X8_firstHour I.n8 I.e8 C.1 C.2.2.2.2.1 C.2.2.1 I.n18 I.e18 C.2.2.2.1 I.ch hN C.2.2.2.2.2.2.1 I.t0).mono (fun v κ' q => ?_)
  obtain ⟨rfl, rfl⟩ := q
  exact ⟨rfl, rfl, RE_34 h 0⟩
theorem k_money {w : W0} {κ0 κ : AH} {σ : MS} {nb nw np : Nat} {wb : Nat → Nat} (h : RI κ0 κ σ nb nw np wb) : CY w yX8_money mX8_money [.ref (tS 4)] κ (fun v κ' => ok κ0 ((σ.1 7, upS σ 34 0)) v κ') := by
  obtain ⟨I, C, F⟩ := id h
  have hN := C.2.1
  refine (c_X8_money (σ := σ) C.1).mono (fun v κ' q => ?_)
  obtain ⟨rfl, rfl⟩ := q
  exact ⟨rfl, by rw [C.2.2.2.2.2.2.2.2.1], RE_34 h 0⟩
theorem k_moneyAnew {w : W0} {κ0 κ : AH} {σ : MS} {nb nw np : Nat} {wb : Nat → Nat} (h : RI κ0 κ σ nb nw np wb) : CY w yX8_moneyAnew mX8_moneyAnew [.ref (tS 4)] κ (fun v κ' => ok κ0 ((σ.1 7, upS σ 34 0)) v κ') := by
  obtain ⟨I, C, F⟩ := id h
  have hN := C.2.1
  refine (c_X8_moneyAnew C.1 (nEn_le I) C.2.2.2.2.2.2.2.1).mono (fun v κ' q => ?_)
  obtain ⟨rfl, rfl⟩ := q
  exact ⟨rfl, by rw [C.2.2.2.2.2.2.2.2.2], RE_34 h 0⟩


/-! THE COMPONENT RUNS A PIPE THROUGH -/
def r1H (κ : AH) (c : Nat) : AH := sI (sI (sI κ (tR c) 4 (gI κ (tR c) 4 + 1)) (tS 0) 1 (gI κ (tS 0) 1 + 1)) (tS 0) 2 (gI κ (tS 0) 2 + 1 * (2 * nI (c % 12)))
def rtH (κ : AH) (g : Nat → Nat) : Nat → AH
  | 0 => κ
  | i + 1 => r1H (rtH κ g i) (g i)
theorem rtH_SG {κ : AH} {g : Nat → Nat} (h : SG κ) : ∀ i, SG (rtH κ g i)
  | 0 => h
  | i + 1 => (rtH_SG h i : SG (rtH κ g i))
theorem rtH_T {κ : AH} {g : Nat → Nat} {t : Nat} : ∀ i, gT (rtH κ g i) t = gT κ t
  | 0 => rfl
  | i + 1 => (rtH_T i : gT (rtH κ g i) t = gT κ t)
theorem rtH_N {κ : AH} {g : Nat → Nat} {t : Nat} : ∀ i, gN (rtH κ g i) t = gN κ t
  | 0 => rfl
  | i + 1 => (rtH_N i : gN (rtH κ g i) t = gN κ t)
theorem rtH_R {κ : AH} {g : Nat → Nat} {t j : Nat} : ∀ i, gR (rtH κ g i) t j = gR κ t j
  | 0 => rfl
  | i + 1 => (rtH_R i : gR (rtH κ g i) t j = gR κ t j)
theorem r1H_I {κ : AH} {c t j : Nat} (h1 : t = tR c → j ≠ 4) (h2 : t ≠ tS 0) : gI (r1H κ c) t j = gI κ t j := by
  unfold r1H
  rw [gI_sI, if_neg (fun z => h2 z.1), gI_sI, if_neg (fun z => h2 z.1), gI_sI, if_neg (fun z => h1 z.1 z.2)]
theorem rtH_I {κ : AH} {g : Nat → Nat} {t j : Nat} (h1 : ∀ c, t = tR c → j ≠ 4) (h2 : t ≠ tS 0) : ∀ i, gI (rtH κ g i) t j = gI κ t j
  | 0 => rfl
  | i + 1 => (r1H_I (h1 _) h2).trans (rtH_I h1 h2 i)
set_option maxRecDepth 20000 in
theorem c_X8_runThrough {w : W0} {κ : AH} {a n : Nat} {σ : MS} {nb : Nat} (hG : SG κ) (hR : hRm κ σ nb) (ha : gT κ a = 11) (han : gN κ a = n) (hn : n ≤ 36) {g : Nat → Nat} (hg : ∀ i, i < n → gI κ a i = nI (g i) ∧ g i < 36 ∧ ¬ σ.2 25 (g i) = -1) (h1 : ∀ c, a ≠ tR c) (h2 : a ≠ tS 0) : CY w yX8_runThrough mX8_runThrough [.ref (tS 4), .ref a] κ (fun v κ' => v = none ∧ κ' = rtH κ g n) := by
  refine CY_of mcX8_runThrough (Nat.le_of_ble_eq_true rfl) (cat1 rfl) (fun θ0 => ?_)
  have loop8 : ∀ (m i : Nat) (x5 x6 : Option Value), i ≤ n → n ≤ m + i → Y w mX8_runThrough θ0 κ (fun v κ' => v = none ∧ κ' = rtH κ g n) (fun _ _ => False) 0 0 8 [some (.ref (tS 4)), some (.ref a), some (.ref a), some (.int (Int32.ofNat (gN κ a))), some (.int (nI i)), x5, x6] [] (rtH κ g i) := by
    intro m
    induction m with
    | zero =>
      intro i x5 x6 hk1 hk2
      have hGi : SG (rtH κ g i) := rtH_SG hG i
      have hex : Int32.ofNat (gN κ a) ≤ nI i → i = n := by rw [han]; intro z; have := (nI_leI (a := n) (by omega) (by omega)).mp z; omega
      have hlt : ¬ Int32.ofNat (gN κ a) ≤ nI i → i < n := by rw [han]; intro z; exact Nat.lt_of_not_le (fun q => z (nI_le (a := n) q (by omega)))
      have hcg : i < n → (nI (g i)).toNatClampNeg = (g i) := fun q => nI_clamp (by have := (hg i q).2.1; omega)
      have hrm : i < n → isRm σ (nI (g i)) := fun q => ⟨in_35 (vp_in_nI (hg i q).2.1 (by decide)), by rw [hcg q]; exact (hg i q).2.2⟩
      have hr5 : i < n → gT (rtH κ g i) (tR (g i)) = 5 := fun q => (rtH_T i).trans (hR.2.1 _ (hg i q).2.1 (hg i q).2.2).1.1
      refine runY_go rkX8_runThrough (fun p => Nat.beq p 8 || Nat.beq p 62) 200 rfl ?_
      refine And.intro (fun c0 => ?_) (fun c0 => ?_)
      · skip
        refine And.intro ⟨Nat.le_of_ble_eq_true rfl, Nat.le_of_ble_eq_true rfl⟩ ?_
        have hi := hex (by assumption)
        subst hi
        exact ⟨rfl, rfl⟩
      · exact absurd (hlt c0) (by omega)
    | succ m ih =>
      intro i x5 x6 hk1 hk2
      have hGi : SG (rtH κ g i) := rtH_SG hG i
      have hex : Int32.ofNat (gN κ a) ≤ nI i → i = n := by rw [han]; intro z; have := (nI_leI (a := n) (by omega) (by omega)).mp z; omega
      have hlt : ¬ Int32.ofNat (gN κ a) ≤ nI i → i < n := by rw [han]; intro z; exact Nat.lt_of_not_le (fun q => z (nI_le (a := n) q (by omega)))
      have hcg : i < n → (nI (g i)).toNatClampNeg = (g i) := fun q => nI_clamp (by have := (hg i q).2.1; omega)
      have hrm : i < n → isRm σ (nI (g i)) := fun q => ⟨in_35 (vp_in_nI (hg i q).2.1 (by decide)), by rw [hcg q]; exact (hg i q).2.2⟩
      have hr5 : i < n → gT (rtH κ g i) (tR (g i)) = 5 := fun q => (rtH_T i).trans (hR.2.1 _ (hg i q).2.1 (hg i q).2.2).1.1
      refine runY_go rkX8_runThrough (fun p => Nat.beq p 8 || Nat.beq p 62) 200 rfl ?_
      refine And.intro (fun c1 => ?_) (fun c1 => ?_)
      · skip
        refine And.intro ⟨Nat.le_of_ble_eq_true rfl, Nat.le_of_ble_eq_true rfl⟩ ?_
        have hi := hex (by assumption)
        subst hi
        exact ⟨rfl, rfl⟩
      · skip
        refine And.intro ⟨((rtH_T i).trans ha), (by rw [rtH_N, han]; exact vp_in_nI (by have := hlt (by assumption); omega) (by omega))⟩ ?_
        refine And.intro (by first | exact hG.t4 | exact hGi.t4) ⟨some (tS 0), (by exact hGi.r43), ?_⟩
        refine pX8_runThrough_26 rfl rfl rfl hGi.t0 (show CY w yX1_roomOf mX1_roomOf [.ref (tS 0), .int (gI (rtH κ g i) a (nI i).toNatClampNeg)] (rtH κ g i) (fun v κ' => v = some (.ref (tR (g i))) ∧ κ' = (rtH κ g i)) from by have h9 := c_X1_roomOf (w := w) (κ := (rtH κ g i)) (x := nI (g i)) (σ := σ) hGi (fun c hc => (rtH_R i).trans (hR.1 c hc)); rw [rmO_y (hrm (hlt (by assumption))), hcg (hlt (by assumption))] at h9; rw [nI_clamp (n := i) (by omega), rtH_I (fun c z => absurd z (h1 c)) h2, (hg i (hlt (by assumption))).1]; exact h9) (fun v κ1 hq2 ho2 hk2 => ?_)
        obtain ⟨rfl, ehq2⟩ := hq2
        rw [ehq2]
        refine runY_ok rkX8_runThrough (fun p => Nat.beq p 8 || Nat.beq p 62) 200 _ _ _ _ _ _ ?_
        refine And.intro (hr5 (hlt (by assumption))) ?_
        refine And.intro (hr5 (hlt (by assumption))) ?_
        refine And.intro (by first | exact hG.t4 | exact hGi.t4) ⟨some (tS 0), (by exact hGi.r43), ?_⟩
        refine pX8_runThrough_55 rfl rfl rfl (hr5 (hlt (by assumption))) (show CY w yX4_frame mX4_frame [.ref (tR (g i))] (sI (rtH κ g i) (tR (g i)) 4 (gI (rtH κ g i) (tR (g i)) 4 + 1)) (fun v κ' => v = some (.int (nI ((g i) % 12))) ∧ κ' = (sI (rtH κ g i) (tR (g i)) 4 (gI (rtH κ g i) (tR (g i)) 4 + 1))) from by have h9 := c_X4_frame (w := w) (κ := (sI (rtH κ g i) (tR (g i)) 4 (gI (rtH κ g i) (tR (g i)) 4 + 1))) (hr5 (hlt (by assumption))); rw [gI_sI, if_neg (fun z => absurd z.2 (by decide)), rtH_I (j := 0) (fun c z => by decide) (fun z => tR_S.mp z), (hR.2.1 _ (hg i (hlt (by assumption))).2.1 (hg i (hlt (by assumption))).2.2).1.2.1, fr_eq (hg i (hlt (by assumption))).2.1] at h9; exact h9) (fun v κ1 hq3 ho3 hk3 => ?_)
        obtain ⟨rfl, ehq3⟩ := hq3
        rw [ehq3]
        refine runY_ok rkX8_runThrough (fun p => Nat.beq p 8 || Nat.beq p 62) 200 _ _ _ _ _ _ ?_
        refine pX8_runThrough_59 rfl rfl rfl hGi.t0 (show CY w yX1_load mX1_load [.ref (tS 0), .int 1, .int (2 * nI ((g i) % 12))] (sI (rtH κ g i) (tR (g i)) 4 (gI (rtH κ g i) (tR (g i)) 4 + 1)) (fun v κ' => v = none ∧ κ' = (r1H (rtH κ g i) (g i))) from by have h9 := c_X1_load (w := w) (κ := (sI (rtH κ g i) (tR (g i)) 4 (gI (rtH κ g i) (tR (g i)) 4 + 1))) (x := 1) (y := 2 * nI ((g i) % 12)) hGi.t0; simp only [gI_sI, tS_R, false_and, if_false] at h9; exact h9) (fun v κ1 hq4 ho4 hk4 => ?_)
        obtain ⟨rfl, ehq4⟩ := hq4
        rw [ehq4]
        refine runY_go rkX8_runThrough (fun p => Nat.beq p 8) 9 rfl ?_
        have e9 := fun x5 => ih (i + 1) x5 (some (.ref (tR (g i)))) (by have := hlt (by assumption); omega) (by omega)
        simp only [← nI_1 i] at e9
        exact e9 _
  refine runY_ok rkX8_runThrough (fun p => Nat.beq p 8 || Nat.beq p 62) 200 _ _ _ _ _ _ ?_
  refine And.intro (by rw [ha]; decide) ?_
  exact loop8 n 0 none none (by omega) (by omega)


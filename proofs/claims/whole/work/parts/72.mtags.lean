
/-! THE MODEL UNDER OUR TAGS -/
def ivT (t : Nat) : Nat := if t % 8 = 6 then (if t / 8 = 0 then 1 else if mkd (t / 8 - 1) = 0 then 0 else t / 8 + 1) else 0
theorem ivT_0 : ivT (tM 0) = 1 := rfl
theorem ivT_k {k : Nat} (h : mkd k ≠ 0) : ivT (tM (k + 1)) = k + 2 := by
  unfold ivT tM
  rw [if_pos (by omega), if_neg (by omega), show (8 * (k + 1) + 6) / 8 = k + 1 from by omega, Nat.add_sub_cancel, if_neg h]
theorem ivT_n {t : Nat} (h : t % 8 ≠ 6) : ivT t = 0 := if_neg h
theorem ivT_40 : ivT (tM 40) = 0 ∧ ivT (tM 41) = 0 := ⟨rfl, rfl⟩
theorem ivT_1 {t : Nat} (h : ivT t = 1) : t = tM 0 := by
  unfold ivT at h
  by_cases e : t % 8 = 6
  · rw [if_pos e] at h
    by_cases e2 : t / 8 = 0
    · unfold tM; omega
    · rw [if_neg e2] at h
      split at h
      · exact absurd h (by decide)
      · omega
  · rw [if_neg e] at h; exact absurd h (by decide)
theorem ivT_2 {t k : Nat} (h : ivT t = k + 2) : t = tM (k + 1) := by
  unfold ivT at h
  by_cases e : t % 8 = 6
  · rw [if_pos e] at h
    by_cases e2 : t / 8 = 0
    · rw [if_pos e2] at h; omega
    · rw [if_neg e2] at h
      split at h
      · omega
      · unfold tM; omega
  · rw [if_neg e] at h; omega
/-- the model's objects lie at our tags -/
def JT (κ : AH) : Prop := gT κ (tM 0) = 10 ∧ ∀ k, mkd k ≠ 0 → gR κ (tM 0) k = some (tM (k + 1)) ∧ gT κ (tM (k + 1)) = mkd k ∧ gN κ (tM (k + 1)) = mlen k
/-- its state is σ -/
def JM (κ : AH) (σ : MS) : Prop := (∀ k, gI κ (tM 0) k = σ.1 k) ∧ ∀ k, mkd k ≠ 0 → ∀ i, gI κ (tM (k + 1)) i = σ.2 k i
theorem JT_MOK {κ : AH} (h : JT κ) : MOK (tM 0) ivT κ := by
  refine ⟨h.1, ivT_0, fun a ha => ivT_1 ha, fun k hk => ?_⟩
  obtain ⟨a, b, c⟩ := h.2 k hk
  have e : aa κ (tM 0) k = tM (k + 1) := by unfold aa; rw [a]; rfl
  rw [e]
  exact ⟨a, ivT_k hk, b, c, fun t ht => ivT_2 ht⟩
theorem JM_PM {κ : AH} {σ : MS} (h : JM κ σ) : PM ivT σ κ = κ := by
  refine congrArg (fun z => ((κ.1, κ.2.1, z, κ.2.2.2) : AH)) (funext fun a => funext fun k => ?_)
  show gI (PM ivT σ κ) a k = gI κ a k
  rw [gI_PM]
  rcases hq : ivT a with _ | _ | n
  · rfl
  · rw [ivT_1 hq]; exact (h.1 k).symm
  · have e := ivT_2 hq
    rw [e]
    refine (h.2 n (fun z => ?_) k).symm
    rw [e] at hq
    unfold ivT tM at hq
    rw [if_pos (by omega), if_neg (by omega), show (8 * (n + 1) + 6) / 8 = n + 1 from by omega, Nat.add_sub_cancel, if_pos z] at hq
    omega
theorem PM_JM {κ : AH} {σ : MS} : JM (PM ivT σ κ) σ := by
  refine ⟨fun k => ?_, fun k hk i => ?_⟩
  · rw [gI_PM, ivT_0]
  · rw [gI_PM, ivT_k hk]
theorem JT_PM {κ : AH} {σ : MS} (h : JT κ) : JT (PM ivT σ κ) := h
theorem PM_d {κ : AH} {σ : MS} : Dif (fun t => ∃ i, t = tM i) κ (PM ivT σ κ) := fun t ht => ⟨rfl, rfl, fun k => by
  rw [gI_PM0 (ivT_n (fun z => ht ⟨t / 8, by unfold tM; omega⟩))], fun _ => rfl⟩
theorem RE_PM {κ0 κ : AH} {σ τ : MS} (h : RE κ0 κ σ) : RE (PM ivT τ κ) (PM ivT τ κ) σ := by
  obtain ⟨nb, nw, np, wb, I, ⟨G, N, B, W, R, P, H, L⟩, F⟩ := h
  have D := PM_d (κ := κ) (σ := τ)
  exact ⟨nb, nw, np, wb, I, ⟨SG_d D (fun i hi z => by obtain ⟨j, hj⟩ := z; exact tS_M.mp hj) G, hNm_d D (by simp [tB_inj, tB_W, tB_R, tB_P, tB_C, tB_S, tW_inj, tW_B, tW_R, tW_P, tW_C, tW_S, tR_inj, tR_B, tR_W, tR_P, tR_C, tR_S, tP_inj, tP_B, tP_W, tP_R, tP_C, tP_S, tC_inj, tC_B, tC_W, tC_R, tC_P, tC_S, tS_inj, tS_B, tS_W, tS_R, tS_P, tS_C, tM_inj, tM_B, tM_W, tM_R, tM_P, tM_C, tM_S, tB_M, tW_M, tR_M, tP_M, tC_M, tS_M]) (by simp [tB_inj, tB_W, tB_R, tB_P, tB_C, tB_S, tW_inj, tW_B, tW_R, tW_P, tW_C, tW_S, tR_inj, tR_B, tR_W, tR_P, tR_C, tR_S, tP_inj, tP_B, tP_W, tP_R, tP_C, tP_S, tC_inj, tC_B, tC_W, tC_R, tC_P, tC_S, tS_inj, tS_B, tS_W, tS_R, tS_P, tS_C, tM_inj, tM_B, tM_W, tM_R, tM_P, tM_C, tM_S, tB_M, tW_M, tR_M, tP_M, tC_M, tS_M]) (by simp [tB_inj, tB_W, tB_R, tB_P, tB_C, tB_S, tW_inj, tW_B, tW_R, tW_P, tW_C, tW_S, tR_inj, tR_B, tR_W, tR_P, tR_C, tR_S, tP_inj, tP_B, tP_W, tP_R, tP_C, tP_S, tC_inj, tC_B, tC_W, tC_R, tC_P, tC_S, tS_inj, tS_B, tS_W, tS_R, tS_P, tS_C, tM_inj, tM_B, tM_W, tM_R, tM_P, tM_C, tM_S, tB_M, tW_M, tR_M, tP_M, tC_M, tS_M]) N, hB_d D (by simp [tB_inj, tB_W, tB_R, tB_P, tB_C, tB_S, tW_inj, tW_B, tW_R, tW_P, tW_C, tW_S, tR_inj, tR_B, tR_W, tR_P, tR_C, tR_S, tP_inj, tP_B, tP_W, tP_R, tP_C, tP_S, tC_inj, tC_B, tC_W, tC_R, tC_P, tC_S, tS_inj, tS_B, tS_W, tS_R, tS_P, tS_C, tM_inj, tM_B, tM_W, tM_R, tM_P, tM_C, tM_S, tB_M, tW_M, tR_M, tP_M, tC_M, tS_M]) (fun i => by simp [tB_inj, tB_W, tB_R, tB_P, tB_C, tB_S, tW_inj, tW_B, tW_R, tW_P, tW_C, tW_S, tR_inj, tR_B, tR_W, tR_P, tR_C, tR_S, tP_inj, tP_B, tP_W, tP_R, tP_C, tP_S, tC_inj, tC_B, tC_W, tC_R, tC_P, tC_S, tS_inj, tS_B, tS_W, tS_R, tS_P, tS_C, tM_inj, tM_B, tM_W, tM_R, tM_P, tM_C, tM_S, tB_M, tW_M, tR_M, tP_M, tC_M, tS_M]) B, hW_d D (by simp [tB_inj, tB_W, tB_R, tB_P, tB_C, tB_S, tW_inj, tW_B, tW_R, tW_P, tW_C, tW_S, tR_inj, tR_B, tR_W, tR_P, tR_C, tR_S, tP_inj, tP_B, tP_W, tP_R, tP_C, tP_S, tC_inj, tC_B, tC_W, tC_R, tC_P, tC_S, tS_inj, tS_B, tS_W, tS_R, tS_P, tS_C, tM_inj, tM_B, tM_W, tM_R, tM_P, tM_C, tM_S, tB_M, tW_M, tR_M, tP_M, tC_M, tS_M]) (fun i => by simp [tB_inj, tB_W, tB_R, tB_P, tB_C, tB_S, tW_inj, tW_B, tW_R, tW_P, tW_C, tW_S, tR_inj, tR_B, tR_W, tR_P, tR_C, tR_S, tP_inj, tP_B, tP_W, tP_R, tP_C, tP_S, tC_inj, tC_B, tC_W, tC_R, tC_P, tC_S, tS_inj, tS_B, tS_W, tS_R, tS_P, tS_C, tM_inj, tM_B, tM_W, tM_R, tM_P, tM_C, tM_S, tB_M, tW_M, tR_M, tP_M, tC_M, tS_M]) W, hRm_d D (by simp [tB_inj, tB_W, tB_R, tB_P, tB_C, tB_S, tW_inj, tW_B, tW_R, tW_P, tW_C, tW_S, tR_inj, tR_B, tR_W, tR_P, tR_C, tR_S, tP_inj, tP_B, tP_W, tP_R, tP_C, tP_S, tC_inj, tC_B, tC_W, tC_R, tC_P, tC_S, tS_inj, tS_B, tS_W, tS_R, tS_P, tS_C, tM_inj, tM_B, tM_W, tM_R, tM_P, tM_C, tM_S, tB_M, tW_M, tR_M, tP_M, tC_M, tS_M]) (fun i hi => by simp [tB_inj, tB_W, tB_R, tB_P, tB_C, tB_S, tW_inj, tW_B, tW_R, tW_P, tW_C, tW_S, tR_inj, tR_B, tR_W, tR_P, tR_C, tR_S, tP_inj, tP_B, tP_W, tP_R, tP_C, tP_S, tC_inj, tC_B, tC_W, tC_R, tC_P, tC_S, tS_inj, tS_B, tS_W, tS_R, tS_P, tS_C, tM_inj, tM_B, tM_W, tM_R, tM_P, tM_C, tM_S, tB_M, tW_M, tR_M, tP_M, tC_M, tS_M]) R, hPi_d D (by simp [tB_inj, tB_W, tB_R, tB_P, tB_C, tB_S, tW_inj, tW_B, tW_R, tW_P, tW_C, tW_S, tR_inj, tR_B, tR_W, tR_P, tR_C, tR_S, tP_inj, tP_B, tP_W, tP_R, tP_C, tP_S, tC_inj, tC_B, tC_W, tC_R, tC_P, tC_S, tS_inj, tS_B, tS_W, tS_R, tS_P, tS_C, tM_inj, tM_B, tM_W, tM_R, tM_P, tM_C, tM_S, tB_M, tW_M, tR_M, tP_M, tC_M, tS_M]) (fun i => by simp [tB_inj, tB_W, tB_R, tB_P, tB_C, tB_S, tW_inj, tW_B, tW_R, tW_P, tW_C, tW_S, tR_inj, tR_B, tR_W, tR_P, tR_C, tR_S, tP_inj, tP_B, tP_W, tP_R, tP_C, tP_S, tC_inj, tC_B, tC_W, tC_R, tC_P, tC_S, tS_inj, tS_B, tS_W, tS_R, tS_P, tS_C, tM_inj, tM_B, tM_W, tM_R, tM_P, tM_C, tM_S, tB_M, tW_M, tR_M, tP_M, tC_M, tS_M]) (fun i => by simp [tB_inj, tB_W, tB_R, tB_P, tB_C, tB_S, tW_inj, tW_B, tW_R, tW_P, tW_C, tW_S, tR_inj, tR_B, tR_W, tR_P, tR_C, tR_S, tP_inj, tP_B, tP_W, tP_R, tP_C, tP_S, tC_inj, tC_B, tC_W, tC_R, tC_P, tC_S, tS_inj, tS_B, tS_W, tS_R, tS_P, tS_C, tM_inj, tM_B, tM_W, tM_R, tM_P, tM_C, tM_S, tB_M, tW_M, tR_M, tP_M, tC_M, tS_M]) P, hHu_d D (by simp [tB_inj, tB_W, tB_R, tB_P, tB_C, tB_S, tW_inj, tW_B, tW_R, tW_P, tW_C, tW_S, tR_inj, tR_B, tR_W, tR_P, tR_C, tR_S, tP_inj, tP_B, tP_W, tP_R, tP_C, tP_S, tC_inj, tC_B, tC_W, tC_R, tC_P, tC_S, tS_inj, tS_B, tS_W, tS_R, tS_P, tS_C, tM_inj, tM_B, tM_W, tM_R, tM_P, tM_C, tM_S, tB_M, tW_M, tR_M, tP_M, tC_M, tS_M]) H, hLe_d D (by simp [tB_inj, tB_W, tB_R, tB_P, tB_C, tB_S, tW_inj, tW_B, tW_R, tW_P, tW_C, tW_S, tR_inj, tR_B, tR_W, tR_P, tR_C, tR_S, tP_inj, tP_B, tP_W, tP_R, tP_C, tP_S, tC_inj, tC_B, tC_W, tC_R, tC_P, tC_S, tS_inj, tS_B, tS_W, tS_R, tS_P, tS_C, tM_inj, tM_B, tM_W, tM_R, tM_P, tM_C, tM_S, tB_M, tW_M, tR_M, tP_M, tC_M, tS_M]) (by simp [tB_inj, tB_W, tB_R, tB_P, tB_C, tB_S, tW_inj, tW_B, tW_R, tW_P, tW_C, tW_S, tR_inj, tR_B, tR_W, tR_P, tR_C, tR_S, tP_inj, tP_B, tP_W, tP_R, tP_C, tP_S, tC_inj, tC_B, tC_W, tC_R, tC_P, tC_S, tS_inj, tS_B, tS_W, tS_R, tS_P, tS_C, tM_inj, tM_B, tM_W, tM_R, tM_P, tM_C, tM_S, tB_M, tW_M, tR_M, tP_M, tC_M, tS_M]) L⟩, FM.refl _⟩
/-- of an address: which of the model's it is, by our tags -/
noncomputable def ivH (θ : Nat → Nat) (κ : AH) (a : Nat) : Nat := @dite Nat (∃ t, gT κ t ≠ 0 ∧ θ t = a) (Classical.propDecidable _) (fun h => ivT (Classical.choose h)) (fun _ => 0)
theorem ivH_of {θ : Nat → Nat} {κ H : AH} (hN : RN θ κ H) {t : Nat} (ht : gT κ t ≠ 0) : ivH θ κ (θ t) = ivT t := by
  have h : ∃ u, gT κ u ≠ 0 ∧ θ u = θ t := ⟨t, ht, rfl⟩
  unfold ivH
  rw [dif_pos h]
  have q := Classical.choose_spec h
  rw [hN.2.1 _ t q.1 ht q.2]
theorem ivH_no {θ : Nat → Nat} {κ : AH} {a : Nat} (h : ¬ ∃ t, gT κ t ≠ 0 ∧ θ t = a) : ivH θ κ a = 0 := by
  unfold ivH
  rw [dif_neg h]
theorem ivH_MOK {θ : Nat → Nat} {κ H : AH} (hN : RN θ κ H) (hJ : JT κ) : MOK (θ (tM 0)) (ivH θ κ) H := by
  have h0 : gT κ (tM 0) ≠ 0 := by rw [hJ.1]; decide
  have back : ∀ a n, ivH θ κ a = n + 1 → ∃ t, gT κ t ≠ 0 ∧ θ t = a ∧ ivT t = n + 1 := by
    intro a n h
    by_cases e : ∃ t, gT κ t ≠ 0 ∧ θ t = a
    · obtain ⟨t, a1, a2⟩ := e
      rw [← a2, ivH_of hN a1] at h
      exact ⟨t, a1, a2, h⟩
    · rw [ivH_no e] at h; omega
  refine ⟨(hN.1 _ h0).1.trans hJ.1, (ivH_of hN h0).trans ivT_0, fun a ha => ?_, fun k hk => ?_⟩
  · obtain ⟨t, a1, a2, a3⟩ := back a 0 ha
    rw [← a2, ivT_1 a3]
  · obtain ⟨b1, b2, b3⟩ := hJ.2 k hk
    have hk0 : gT κ (tM (k + 1)) ≠ 0 := by rw [b2]; exact hk
    have e1 : gR H (θ (tM 0)) k = some (θ (tM (k + 1))) := by rw [(hN.1 _ h0).2.2.2.1, b1]; rfl
    have e : aa H (θ (tM 0)) k = θ (tM (k + 1)) := by unfold aa; rw [e1]; rfl
    rw [e]
    refine ⟨e1, (ivH_of hN hk0).trans (ivT_k hk), (hN.1 _ hk0).1.trans b2, (hN.1 _ hk0).2.1.trans b3, fun a ha => ?_⟩
    obtain ⟨t, a1, a2, a3⟩ := back a (k + 1) ha
    rw [← a2, ivT_2 a3]
theorem ivH_PM {θ : Nat → Nat} {κ H : AH} {σ : MS} (hN : RN θ κ H) (hM : JM κ σ) : PM (ivH θ κ) σ H = H := by
  refine congrArg (fun z => ((H.1, H.2.1, z, H.2.2.2) : AH)) (funext fun a => funext fun k => ?_)
  show gI (PM (ivH θ κ) σ H) a k = gI H a k
  by_cases e : ∃ t, gT κ t ≠ 0 ∧ θ t = a
  · obtain ⟨t, a1, rfl⟩ := e
    rw [gI_PM, ivH_of hN a1, (hN.1 t a1).2.2.1]
    have q : gI (PM ivT σ κ) t k = gI κ t k := by rw [JM_PM hM]
    rw [gI_PM] at q
    rcases hz : ivT t with _ | _ | n
    · rfl
    · rw [hz] at q; exact q
    · rw [hz] at q; exact q
  · rw [gI_PM, ivH_no e]
theorem RN_PM {θ : Nat → Nat} {κ H : AH} {τ : MS} (hN : RN θ κ H) : RN θ (PM ivT τ κ) (PM (ivH θ κ) τ H) := by
  obtain ⟨h1, h2, h3, h4⟩ := id hN
  refine ⟨fun t ht => ?_, h2, h3, h4⟩
  obtain ⟨a, b, c, d, e⟩ := h1 t ht
  refine ⟨a, b, fun k => ?_, d, e⟩
  rw [gI_PM, gI_PM, ivH_of hN ht]
  rcases ivT t with _ | _ | n
  · exact c k
  · rfl
  · rfl
/-- a model's method, called under our tags -/
theorem CY_CM {w : W0} {y : MethodName} {M : MI} {as : List Int32} {κ : AH} {σ : MS} {Q : Option Int32 → MS → Prop} (hJ : JT κ) (hM : JM κ σ) (hc : ∀ (m : Nat) (iv : Nat → Nat) (h : AH), MOK m iv h → CM w y M m iv h as σ Q) : CY w y M (.ref (tM 0) :: as.map Value.int) κ (fun v κ' => ∃ r σ', v = r.map Value.int ∧ κ' = PM ivT σ' κ ∧ Q r σ') := by
  intro θ H hN hK
  have h := hc (θ (tM 0)) (ivH θ κ) H (ivH_MOK hN hJ)
  unfold CM at h
  rw [ivH_PM hN hM] at h
  have ea : (Value.ref (tM 0) :: as.map Value.int).map (rnV θ) = .ref (θ (tM 0)) :: as.map Value.int := by
    rw [List.map_cons, List.map_map]
    rfl
  rw [ea]
  refine h.mono fun v h' q => ?_
  obtain ⟨r, σ', e1, e2, e3⟩ := q
  refine ⟨θ, r.map Value.int, PM ivT σ' κ, by rw [e2]; exact RN_PM hN, fun t ht => ⟨rfl, rfl, rfl⟩, ?_, ?_, r, σ', rfl, rfl, e3⟩
  · rw [e1]; cases r <;> rfl
  · intro x hx
    cases r with
    | none => cases hx
    | some z => cases hx; trivial

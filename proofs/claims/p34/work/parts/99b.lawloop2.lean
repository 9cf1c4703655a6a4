
/-! THE LAW'S LOOP, all of it -/
theorem lw_305 {w : W0} (hw : w.lX < 2 ^ 31) : ∀ (m k : Nat), m + k = 64 → ∀ (κ : AH) (kc ns : Nat) (y14 y15 y16 : Option Value), LwS k κ → kc ≤ 1000 + 4000 * k → ns ≤ 10000 + 42000 * k → YS w lwQ kc ns 305 [some (.ref (tM 40)), some (.ref (tS 4)), some (.ref (tM 0)), some (.ref (tM 1)), some (.ref (tM 2)), some (.ref (tM 3)), some (.ref (tM 4)), some (.ref (tM 5)), some (.ref (tM 6)), some (.ref (tM 7)), some (.ref (tM 8)), some (.ref (tM 9)), some (.int 1), some (.int (nI k)), y14, y15, y16] [] κ := by
  intro m
  induction m with
  | zero =>
    intro k hk κ kc ns y14 y15 y16 h hkc hns
    have e : k = 64 := by omega
    subst e
    refine runS_go (fun p => Nat.beq p 350) 80 rfl ?_
    refine And.intro (fun _ => ?_) (fun c => absurd (show (64 : Int32) ≤ nI 64 by decide) c)
    exact And.intro ⟨(show kc ≤ 600074 by omega), (show ns ≤ 7301550 by omega)⟩ (And.intro (Or.inr rfl) rfl)
  | succ m ih =>
    intro k hk κ kc ns y14 y15 y16 h hkc hns
    obtain ⟨σ, nb, nw, np, wb, hI, A, C, h40, hf⟩ := id h
    have e3 : (3 : Int32) * nI k = nI (3 * k) := by rw [show (3 : Int32) = nI 3 from rfl, nI_mul]
    have e4 : (3 : Int32) * nI k + 1 = nI (3 * k + 1) := by rw [e3]; exact nI_1 _
    have e5 : (3 : Int32) * nI k + 2 = nI (3 * k + 2) := by rw [e3, show (2 : Int32) = nI 2 from rfl, nI_add]
    have K350 : ∀ x : Int32, YS w lwQ kc ns 350 [some (.ref (tM 40)), some (.ref (tS 4)), some (.ref (tM 0)), some (.ref (tM 1)), some (.ref (tM 2)), some (.ref (tM 3)), some (.ref (tM 4)), some (.ref (tM 5)), some (.ref (tM 6)), some (.ref (tM 7)), some (.ref (tM 8)), some (.ref (tM 9)), some (.int 1), some (.int (nI k)), y14, y15, y16] [.int x] κ := by
      intro x
      refine runS_go (fun p => Nat.beq p 380) 80 rfl ?_
      refine sL_law_359 ?_
      rw [e4]
      refine sL_law_361 (j := 3 * k + 1) (m := 60000) (by omega) (by decide) (by decide) hw rfl (Nat.ble_eq_true_of_le (by omega)) (Nat.ble_eq_true_of_le (by omega)) (fun o ho => ?_)
      refine runS_ok (fun p => Nat.beq p 380) 80 _ _ _ _ _ _ ?_
      refine sL_law_373 ?_
      rw [e5]
      refine sL_law_375 (j := 3 * k + 2) (m := 60000) (by omega) (by decide) (by decide) hw rfl (Nat.ble_eq_true_of_le (by omega)) (Nat.ble_eq_true_of_le (by omega)) (fun q hq => ?_)
      refine runS_ok (fun p => Nat.beq p 380) 80 _ _ _ _ _ _ ?_
      refine lw_380 h ho hq (by omega) (by omega) (fun κ' kc' ns' h1 h2 h3 => ?_)
      exact lw_686 h3 (by omega) (by omega) (fun κ2 h4 => ih (k + 1) (by omega) κ2 _ _ _ _ _ h4 (by omega) (by omega))
    refine runS_go (fun p => Nat.beq p 350) 80 rfl ?_
    refine And.intro (fun c => absurd ((nI_leI (a := 64) (by decide) (by omega)).mp c) (by omega)) (fun _ => ?_)
    refine And.intro (fun c => absurd c (by decide)) (fun _ => ?_)
    refine And.intro (fun _ => ?_) (fun _ => ?_)
    · refine And.intro (fun _ => ?_) (fun _ => ?_)
      · have Zp := sL_law_347 (w := w) (Qv := lwQ) (kc := kc) (ns := ns) (L := [some (.ref (tM 40)), some (.ref (tS 4)), some (.ref (tM 0)), some (.ref (tM 1)), some (.ref (tM 2)), some (.ref (tM 3)), some (.ref (tM 4)), some (.ref (tM 5)), some (.ref (tM 6)), some (.ref (tM 7)), some (.ref (tM 8)), some (.ref (tM 9)), some (.int 1), some (.int (nI k)), y14, y15, y16]) (st := []) (κ := κ) (j := 3 * k) (m := 40) (by omega) (by decide) (by decide) hw rfl (Nat.ble_eq_true_of_le (by omega)) (Nat.ble_eq_true_of_le (by omega)) (fun r _ => K350 _)
        rw [← e3] at Zp
        exact Zp
      · exact K350 _
    · exact K350 _

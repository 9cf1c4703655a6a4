/-! THE COMPONENT'S WAYS, 8: no way -/
set_option maxRecDepth 20000 in
theorem d_X5_seek {w : W0} {κ : AH} {a b : Nat} {σ : MS} {nb : Nat} (hG : SG κ) (hR : hRm κ σ nb) (ho : hOK σ) (ha : a < 36) (hfa : ¬ σ.2 25 a = -1) (hb : b < 36) (hfb : ¬ σ.2 25 b = -1) (hF : ¬ 1 ≤ gI (meH κ σ b) (tR a) 6) : CY w yX5_seek mX5_seek [.ref (tS 2), .ref (tR a), .ref (tR b)] κ (fun v κ' => v = some .null ∧ κ' = (meH κ σ b)) := by
  refine CY_of mcX5_seek (Nat.le_of_ble_eq_true rfl) (cat1 rfl) (fun θ0 => ?_)
  have hra : gT (meH κ σ b) (tR a) = 5 := ((meH_R (b := b) hR).2.1 a ha hfa).1.1
  refine runY_ok rkX5_seek noCut 200 _ _ _ _ _ _ ?_
  refine pX5_seek_2 rfl rfl rfl hG.t2 (c_X5_measure hG hR ho hb hfb) (fun v κ1 hq ho1 hk1 => ?_)
  obtain ⟨rfl, e⟩ := hq
  rw [e]
  refine runY_ok rkX5_seek noCut 200 _ _ _ _ _ _ ?_
  refine And.intro hra ?_
  refine And.intro (fun c0 => absurd c0 hF) (fun _ => ?_)
  refine And.intro ⟨Nat.le_of_ble_eq_true rfl, Nat.le_of_ble_eq_true rfl⟩ ?_
  exact ⟨rfl, rfl⟩


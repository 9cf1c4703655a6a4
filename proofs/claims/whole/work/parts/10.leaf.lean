/-! leaf methods -/
theorem cat1 {as : List Value} (h : as.all (fun v => decide (v.category = 1)) = true) : ∀ v ∈ as, v.category = 1 := fun v hv => of_decide_eq_true (List.all_eq_true.mp h v hv)
def noCut : Nat → Bool := fun _ => false
set_option maxRecDepth 20000 in
theorem c_X8_isWithin {w : W0} {h : AH} {x a b : Int32} : Cn w yX8_isWithin mX8_isWithin [.int x, .int a, .int b] h (fun v h' => v = some (.int (if a ≤ x ∧ x ≤ b then 1 else 0)) ∧ h' = h) := by
  refine Cn_of mcX8_isWithin (Nat.le_of_ble_eq_true rfl) (cat1 rfl) ?_
  refine run_ok rkX8_isWithin noCut 20 _ _ _ _ _ _ ?_
  refine And.intro (fun c1 => ?_) (fun c1 => ?_)
  · refine And.intro ⟨Nat.zero_le _, Nat.zero_le _⟩ (And.intro (Or.inl rfl) ?_)
    refine ⟨?_, rfl⟩
    rw [if_neg (fun z => Int32.not_le.mpr c1 z.1)]
  · refine And.intro (fun c2 => ?_) (fun c2 => ?_)
    · refine And.intro ⟨Nat.zero_le _, Nat.zero_le _⟩ (And.intro (Or.inl rfl) ?_)
      refine ⟨?_, rfl⟩
      rw [if_neg (fun z => Int32.not_le.mpr c2 z.2)]
    · refine And.intro ⟨Nat.zero_le _, Nat.zero_le _⟩ (And.intro (Or.inr rfl) ?_)
      refine ⟨?_, rfl⟩
      rw [if_pos ⟨Int32.not_lt.mp c1, Int32.not_lt.mp c2⟩]

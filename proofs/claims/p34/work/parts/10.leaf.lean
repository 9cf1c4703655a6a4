/-! leaf methods -/
theorem cat1 {as : List Value} (h : as.all (fun v => decide (v.category = 1)) = true) : ∀ v ∈ as, v.category = 1 := fun v hv => of_decide_eq_true (List.all_eq_true.mp h v hv)
def noCut : Nat → Bool := fun _ => false

/-! THE MODEL'S EVALUATOR: its state is two functions (numbers by field, rows by field and place) -/
abbrev MS : Type := (Nat → Int32) × (Nat → Nat → Int32)
def upS (σ : MS) (k : Nat) (v : Int32) : MS := (fun j => if j = k then v else σ.1 j, σ.2)
def upA (σ : MS) (k i : Nat) (v : Int32) : MS := (σ.1, fun j n => if j = k ∧ n = i then v else σ.2 j n)

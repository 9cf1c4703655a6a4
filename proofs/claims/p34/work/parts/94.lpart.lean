
/-! THE LAW'S part: a part of the script, or of what stands for it behind its end -/
theorem an_I (x : Int32) : ∃ A, A < 2 ^ 31 ∧ x &&& 2147483647 = nI A := by
  refine ⟨(x &&& 2147483647).toBitVec.toNat, ?_, ?_⟩
  · show (x.toBitVec &&& 2147483647#32).toNat < 2 ^ 31
    rw [BitVec.toNat_and]
    exact Nat.lt_of_le_of_lt Nat.and_le_right (by decide)
  · refine Int32.toBitVec_inj.mp ?_
    show _ = BitVec.ofNat 32 _
    simp
set_option maxRecDepth 20000 in
theorem c_L_part {w : W0} {h : AH} {j m : Nat} (hj : j < 2 ^ 31) (hm : 0 < m) (hm2 : m < 2 ^ 31) (hX : w.lX < 2 ^ 31) : Cn w yL_part mL_part [.ref w.aX, .int (nI j), .int (nI m)] h (fun v h' => h' = h ∧ ∃ r, r < m ∧ v = some (.int (nI r))) := by
  refine Cn_of mcL_part (Nat.le_of_ble_eq_true rfl) (cat1 rfl) ?_
  have K25 : ∀ x : Int32, X w mL_part (fun v h' => h' = h ∧ ∃ r, r < m ∧ v = some (.int (nI r))) (fun _ _ => False) 0 0 25 [some (.ref w.aX), some (.int (nI j)), some (.int (nI m)), none] [.int x] h := by
    intro x
    refine run_go rkL_part noCut 60 ?_
    refine qL_part_27 ?_
    refine run_ok rkL_part noCut 60 _ _ _ _ _ _ ?_
    obtain ⟨A, hA, e⟩ := an_I x
    refine And.intro (fun z => by have := (nI_eq (a := m) (b := 0) hm2 (by decide)).mp z; omega) ?_
    refine And.intro ⟨Nat.le_of_ble_eq_true rfl, Nat.le_of_ble_eq_true rfl⟩ ?_
    refine ⟨rfl, A % m, Nat.mod_lt _ hm, ?_⟩
    rw [e]
    exact congrArg (fun y => some (Value.int y)) (rm_nI hA hm hm2)
  refine run_ok rkL_part (fun p => Nat.beq p 2) 60 _ _ _ _ _ _ ?_
  refine x_roXlen (by decide +kernel) ?_
  refine run_ok rkL_part (fun p => Nat.beq p 8 || Nat.beq p 25) 60 _ _ _ _ _ _ ?_
  refine And.intro (fun c => ?_) (fun c => ?_)
  · exact K25 _
  · refine x_roX (by decide +kernel) ?_ ?_
    · refine vp_in_nI (N := w.lX) ?_ (by omega)
      have c2 : ¬ w.lX ≤ j := fun z => c ((nI_leI hX hj).mpr z)
      omega
    · refine run_ok rkL_part (fun p => Nat.beq p 25) 60 _ _ _ _ _ _ ?_
      exact K25 _

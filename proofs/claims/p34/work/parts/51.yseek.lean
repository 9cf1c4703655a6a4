/-! THE COMPONENT'S WAYS, 6: the row of a way's cells -/
theorem pX5_seek_19 {w : W0} {θ0 : Nat → Nat} {κ0 : AH} {Q : Option Value → AH → Prop} {QX : String → AH → Prop} {kc ns : Nat} {L : List (Option Value)} {st : List Value} {κ : AH} {n : Int32} (t N : Nat) (hn : n = nI N) (hN : N ≤ 36) (hcl : Nat.ble (kc + 1) 1 = true) (hsl : ns + N ≤ 36) (ht : gT κ t = 0) (k : Y w mX5_seek θ0 κ0 Q QX (kc + 1) (ns + N) 21 L (.ref t :: st) (nO κ t 11 N)) : Y w mX5_seek θ0 κ0 Q QX kc ns 19 L (.int n :: st) κ := by
  intro θ H hM hE hL hS
  exact x_newI (by decide +kernel : decode cX5_seek 19 = .ok (.newarray .int, 2)) ac_int (by rw [hn]; exact nI_pos (by omega)) (by rw [hn]; exact nI_clamp (by omega)) (by omega) (Nat.le_of_ble_eq_true hcl) hsl (y_new ht (by decide) k hM hE hL (okK_tl hS))


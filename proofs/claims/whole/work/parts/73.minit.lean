
/-! THE MODEL'S CONSTRUCTOR -/
theorem pX9_init_1 {w : W0} {θ0 : Nat → Nat} {κ0 : AH} {Q : Option Value → AH → Prop} {QX : String → AH → Prop} {kc ns : Nat} {L : List (Option Value)} {st : List Value} {κ : AH} {a : Nat} (hst : Nat.ble (st.map fun v => v.category).sum 8 = true) (k : Y w mX9_init θ0 κ0 Q QX kc ns 4 L (st) κ) : Y w mX9_init θ0 κ0 Q QX kc ns 1 L (.ref a :: st) κ := by
  intro θ H hN hE hL hS
  exact qX9_init_1 (hst_rn θ hst) (k θ H hN hE hL (okK_tl hS))
theorem pX9_init_31 {w : W0} {θ0 : Nat → Nat} {κ0 : AH} {Q : Option Value → AH → Prop} {QX : String → AH → Prop} {kc ns : Nat} {L : List (Option Value)} {st : List Value} {κ : AH} (t : Nat) (hcl : Nat.ble (kc + 1) 24 = true) (hsl : Nat.ble (ns + 4) 2470 = true) (ht : gT κ t = 0) (k : Y w mX9_init θ0 κ0 Q QX (kc + 1) (ns + 4) 33 L (.ref t :: st) (nO κ t 11 4)) : Y w mX9_init θ0 κ0 Q QX kc ns 31 L (.int 4 :: st) κ := by
  intro θ H hN hE hL hS
  exact qX9_init_31 hcl hsl (y_new ht (by decide) k hN hE hL (okK_tl hS))
theorem pX9_init_39 {w : W0} {θ0 : Nat → Nat} {κ0 : AH} {Q : Option Value → AH → Prop} {QX : String → AH → Prop} {kc ns : Nat} {L : List (Option Value)} {st : List Value} {κ : AH} (t : Nat) (hcl : Nat.ble (kc + 1) 24 = true) (hsl : Nat.ble (ns + 60) 2470 = true) (ht : gT κ t = 0) (k : Y w mX9_init θ0 κ0 Q QX (kc + 1) (ns + 60) 41 L (.ref t :: st) (nO κ t 11 60)) : Y w mX9_init θ0 κ0 Q QX kc ns 39 L (.int 60 :: st) κ := by
  intro θ H hN hE hL hS
  exact qX9_init_39 hcl hsl (y_new ht (by decide) k hN hE hL (okK_tl hS))
theorem pX9_init_47 {w : W0} {θ0 : Nat → Nat} {κ0 : AH} {Q : Option Value → AH → Prop} {QX : String → AH → Prop} {kc ns : Nat} {L : List (Option Value)} {st : List Value} {κ : AH} (t : Nat) (hcl : Nat.ble (kc + 1) 24 = true) (hsl : Nat.ble (ns + 60) 2470 = true) (ht : gT κ t = 0) (k : Y w mX9_init θ0 κ0 Q QX (kc + 1) (ns + 60) 49 L (.ref t :: st) (nO κ t 11 60)) : Y w mX9_init θ0 κ0 Q QX kc ns 47 L (.int 60 :: st) κ := by
  intro θ H hN hE hL hS
  exact qX9_init_47 hcl hsl (y_new ht (by decide) k hN hE hL (okK_tl hS))
theorem pX9_init_55 {w : W0} {θ0 : Nat → Nat} {κ0 : AH} {Q : Option Value → AH → Prop} {QX : String → AH → Prop} {kc ns : Nat} {L : List (Option Value)} {st : List Value} {κ : AH} (t : Nat) (hcl : Nat.ble (kc + 1) 24 = true) (hsl : Nat.ble (ns + 60) 2470 = true) (ht : gT κ t = 0) (k : Y w mX9_init θ0 κ0 Q QX (kc + 1) (ns + 60) 57 L (.ref t :: st) (nO κ t 11 60)) : Y w mX9_init θ0 κ0 Q QX kc ns 55 L (.int 60 :: st) κ := by
  intro θ H hN hE hL hS
  exact qX9_init_55 hcl hsl (y_new ht (by decide) k hN hE hL (okK_tl hS))
theorem pX9_init_63 {w : W0} {θ0 : Nat → Nat} {κ0 : AH} {Q : Option Value → AH → Prop} {QX : String → AH → Prop} {kc ns : Nat} {L : List (Option Value)} {st : List Value} {κ : AH} (t : Nat) (hcl : Nat.ble (kc + 1) 24 = true) (hsl : Nat.ble (ns + 60) 2470 = true) (ht : gT κ t = 0) (k : Y w mX9_init θ0 κ0 Q QX (kc + 1) (ns + 60) 65 L (.ref t :: st) (nO κ t 11 60)) : Y w mX9_init θ0 κ0 Q QX kc ns 63 L (.int 60 :: st) κ := by
  intro θ H hN hE hL hS
  exact qX9_init_63 hcl hsl (y_new ht (by decide) k hN hE hL (okK_tl hS))
theorem pX9_init_71 {w : W0} {θ0 : Nat → Nat} {κ0 : AH} {Q : Option Value → AH → Prop} {QX : String → AH → Prop} {kc ns : Nat} {L : List (Option Value)} {st : List Value} {κ : AH} (t : Nat) (hcl : Nat.ble (kc + 1) 24 = true) (hsl : Nat.ble (ns + 60) 2470 = true) (ht : gT κ t = 0) (k : Y w mX9_init θ0 κ0 Q QX (kc + 1) (ns + 60) 73 L (.ref t :: st) (nO κ t 11 60)) : Y w mX9_init θ0 κ0 Q QX kc ns 71 L (.int 60 :: st) κ := by
  intro θ H hN hE hL hS
  exact qX9_init_71 hcl hsl (y_new ht (by decide) k hN hE hL (okK_tl hS))
theorem pX9_init_79 {w : W0} {θ0 : Nat → Nat} {κ0 : AH} {Q : Option Value → AH → Prop} {QX : String → AH → Prop} {kc ns : Nat} {L : List (Option Value)} {st : List Value} {κ : AH} (t : Nat) (hcl : Nat.ble (kc + 1) 24 = true) (hsl : Nat.ble (ns + 60) 2470 = true) (ht : gT κ t = 0) (k : Y w mX9_init θ0 κ0 Q QX (kc + 1) (ns + 60) 81 L (.ref t :: st) (nO κ t 11 60)) : Y w mX9_init θ0 κ0 Q QX kc ns 79 L (.int 60 :: st) κ := by
  intro θ H hN hE hL hS
  exact qX9_init_79 hcl hsl (y_new ht (by decide) k hN hE hL (okK_tl hS))
theorem pX9_init_87 {w : W0} {θ0 : Nat → Nat} {κ0 : AH} {Q : Option Value → AH → Prop} {QX : String → AH → Prop} {kc ns : Nat} {L : List (Option Value)} {st : List Value} {κ : AH} (t : Nat) (hcl : Nat.ble (kc + 1) 24 = true) (hsl : Nat.ble (ns + 60) 2470 = true) (ht : gT κ t = 0) (k : Y w mX9_init θ0 κ0 Q QX (kc + 1) (ns + 60) 89 L (.ref t :: st) (nO κ t 11 60)) : Y w mX9_init θ0 κ0 Q QX kc ns 87 L (.int 60 :: st) κ := by
  intro θ H hN hE hL hS
  exact qX9_init_87 hcl hsl (y_new ht (by decide) k hN hE hL (okK_tl hS))
theorem pX9_init_95 {w : W0} {θ0 : Nat → Nat} {κ0 : AH} {Q : Option Value → AH → Prop} {QX : String → AH → Prop} {kc ns : Nat} {L : List (Option Value)} {st : List Value} {κ : AH} (t : Nat) (hcl : Nat.ble (kc + 1) 24 = true) (hsl : Nat.ble (ns + 60) 2470 = true) (ht : gT κ t = 0) (k : Y w mX9_init θ0 κ0 Q QX (kc + 1) (ns + 60) 97 L (.ref t :: st) (nO κ t 11 60)) : Y w mX9_init θ0 κ0 Q QX kc ns 95 L (.int 60 :: st) κ := by
  intro θ H hN hE hL hS
  exact qX9_init_95 hcl hsl (y_new ht (by decide) k hN hE hL (okK_tl hS))
theorem pX9_init_103 {w : W0} {θ0 : Nat → Nat} {κ0 : AH} {Q : Option Value → AH → Prop} {QX : String → AH → Prop} {kc ns : Nat} {L : List (Option Value)} {st : List Value} {κ : AH} (t : Nat) (hcl : Nat.ble (kc + 1) 24 = true) (hsl : Nat.ble (ns + 60) 2470 = true) (ht : gT κ t = 0) (k : Y w mX9_init θ0 κ0 Q QX (kc + 1) (ns + 60) 105 L (.ref t :: st) (nO κ t 11 60)) : Y w mX9_init θ0 κ0 Q QX kc ns 103 L (.int 60 :: st) κ := by
  intro θ H hN hE hL hS
  exact qX9_init_103 hcl hsl (y_new ht (by decide) k hN hE hL (okK_tl hS))
theorem pX9_init_111 {w : W0} {θ0 : Nat → Nat} {κ0 : AH} {Q : Option Value → AH → Prop} {QX : String → AH → Prop} {kc ns : Nat} {L : List (Option Value)} {st : List Value} {κ : AH} (t : Nat) (hcl : Nat.ble (kc + 1) 24 = true) (hsl : Nat.ble (ns + 100) 2470 = true) (ht : gT κ t = 0) (k : Y w mX9_init θ0 κ0 Q QX (kc + 1) (ns + 100) 113 L (.ref t :: st) (nO κ t 11 100)) : Y w mX9_init θ0 κ0 Q QX kc ns 111 L (.int 100 :: st) κ := by
  intro θ H hN hE hL hS
  exact qX9_init_111 hcl hsl (y_new ht (by decide) k hN hE hL (okK_tl hS))
theorem pX9_init_119 {w : W0} {θ0 : Nat → Nat} {κ0 : AH} {Q : Option Value → AH → Prop} {QX : String → AH → Prop} {kc ns : Nat} {L : List (Option Value)} {st : List Value} {κ : AH} (t : Nat) (hcl : Nat.ble (kc + 1) 24 = true) (hsl : Nat.ble (ns + 100) 2470 = true) (ht : gT κ t = 0) (k : Y w mX9_init θ0 κ0 Q QX (kc + 1) (ns + 100) 121 L (.ref t :: st) (nO κ t 12 100)) : Y w mX9_init θ0 κ0 Q QX kc ns 119 L (.int 100 :: st) κ := by
  intro θ H hN hE hL hS
  exact qX9_init_119 hcl hsl (y_new ht (by decide) k hN hE hL (okK_tl hS))
theorem pX9_init_127 {w : W0} {θ0 : Nat → Nat} {κ0 : AH} {Q : Option Value → AH → Prop} {QX : String → AH → Prop} {kc ns : Nat} {L : List (Option Value)} {st : List Value} {κ : AH} (t : Nat) (hcl : Nat.ble (kc + 1) 24 = true) (hsl : Nat.ble (ns + 100) 2470 = true) (ht : gT κ t = 0) (k : Y w mX9_init θ0 κ0 Q QX (kc + 1) (ns + 100) 129 L (.ref t :: st) (nO κ t 11 100)) : Y w mX9_init θ0 κ0 Q QX kc ns 127 L (.int 100 :: st) κ := by
  intro θ H hN hE hL hS
  exact qX9_init_127 hcl hsl (y_new ht (by decide) k hN hE hL (okK_tl hS))
theorem pX9_init_135 {w : W0} {θ0 : Nat → Nat} {κ0 : AH} {Q : Option Value → AH → Prop} {QX : String → AH → Prop} {kc ns : Nat} {L : List (Option Value)} {st : List Value} {κ : AH} (t : Nat) (hcl : Nat.ble (kc + 1) 24 = true) (hsl : Nat.ble (ns + 100) 2470 = true) (ht : gT κ t = 0) (k : Y w mX9_init θ0 κ0 Q QX (kc + 1) (ns + 100) 137 L (.ref t :: st) (nO κ t 11 100)) : Y w mX9_init θ0 κ0 Q QX kc ns 135 L (.int 100 :: st) κ := by
  intro θ H hN hE hL hS
  exact qX9_init_135 hcl hsl (y_new ht (by decide) k hN hE hL (okK_tl hS))
theorem pX9_init_143 {w : W0} {θ0 : Nat → Nat} {κ0 : AH} {Q : Option Value → AH → Prop} {QX : String → AH → Prop} {kc ns : Nat} {L : List (Option Value)} {st : List Value} {κ : AH} (t : Nat) (hcl : Nat.ble (kc + 1) 24 = true) (hsl : Nat.ble (ns + 100) 2470 = true) (ht : gT κ t = 0) (k : Y w mX9_init θ0 κ0 Q QX (kc + 1) (ns + 100) 145 L (.ref t :: st) (nO κ t 11 100)) : Y w mX9_init θ0 κ0 Q QX kc ns 143 L (.int 100 :: st) κ := by
  intro θ H hN hE hL hS
  exact qX9_init_143 hcl hsl (y_new ht (by decide) k hN hE hL (okK_tl hS))
theorem pX9_init_151 {w : W0} {θ0 : Nat → Nat} {κ0 : AH} {Q : Option Value → AH → Prop} {QX : String → AH → Prop} {kc ns : Nat} {L : List (Option Value)} {st : List Value} {κ : AH} (t : Nat) (hcl : Nat.ble (kc + 1) 24 = true) (hsl : Nat.ble (ns + 100) 2470 = true) (ht : gT κ t = 0) (k : Y w mX9_init θ0 κ0 Q QX (kc + 1) (ns + 100) 153 L (.ref t :: st) (nO κ t 11 100)) : Y w mX9_init θ0 κ0 Q QX kc ns 151 L (.int 100 :: st) κ := by
  intro θ H hN hE hL hS
  exact qX9_init_151 hcl hsl (y_new ht (by decide) k hN hE hL (okK_tl hS))
theorem pX9_init_159 {w : W0} {θ0 : Nat → Nat} {κ0 : AH} {Q : Option Value → AH → Prop} {QX : String → AH → Prop} {kc ns : Nat} {L : List (Option Value)} {st : List Value} {κ : AH} (t : Nat) (hcl : Nat.ble (kc + 1) 24 = true) (hsl : Nat.ble (ns + 36) 2470 = true) (ht : gT κ t = 0) (k : Y w mX9_init θ0 κ0 Q QX (kc + 1) (ns + 36) 161 L (.ref t :: st) (nO κ t 11 36)) : Y w mX9_init θ0 κ0 Q QX kc ns 159 L (.int 36 :: st) κ := by
  intro θ H hN hE hL hS
  exact qX9_init_159 hcl hsl (y_new ht (by decide) k hN hE hL (okK_tl hS))
theorem pX9_init_167 {w : W0} {θ0 : Nat → Nat} {κ0 : AH} {Q : Option Value → AH → Prop} {QX : String → AH → Prop} {kc ns : Nat} {L : List (Option Value)} {st : List Value} {κ : AH} (t : Nat) (hcl : Nat.ble (kc + 1) 24 = true) (hsl : Nat.ble (ns + 36) 2470 = true) (ht : gT κ t = 0) (k : Y w mX9_init θ0 κ0 Q QX (kc + 1) (ns + 36) 169 L (.ref t :: st) (nO κ t 12 36)) : Y w mX9_init θ0 κ0 Q QX kc ns 167 L (.int 36 :: st) κ := by
  intro θ H hN hE hL hS
  exact qX9_init_167 hcl hsl (y_new ht (by decide) k hN hE hL (okK_tl hS))
theorem pX9_init_175 {w : W0} {θ0 : Nat → Nat} {κ0 : AH} {Q : Option Value → AH → Prop} {QX : String → AH → Prop} {kc ns : Nat} {L : List (Option Value)} {st : List Value} {κ : AH} (t : Nat) (hcl : Nat.ble (kc + 1) 24 = true) (hsl : Nat.ble (ns + 36) 2470 = true) (ht : gT κ t = 0) (k : Y w mX9_init θ0 κ0 Q QX (kc + 1) (ns + 36) 177 L (.ref t :: st) (nO κ t 11 36)) : Y w mX9_init θ0 κ0 Q QX kc ns 175 L (.int 36 :: st) κ := by
  intro θ H hN hE hL hS
  exact qX9_init_175 hcl hsl (y_new ht (by decide) k hN hE hL (okK_tl hS))
theorem pX9_init_183 {w : W0} {θ0 : Nat → Nat} {κ0 : AH} {Q : Option Value → AH → Prop} {QX : String → AH → Prop} {kc ns : Nat} {L : List (Option Value)} {st : List Value} {κ : AH} (t : Nat) (hcl : Nat.ble (kc + 1) 24 = true) (hsl : Nat.ble (ns + 36) 2470 = true) (ht : gT κ t = 0) (k : Y w mX9_init θ0 κ0 Q QX (kc + 1) (ns + 36) 185 L (.ref t :: st) (nO κ t 11 36)) : Y w mX9_init θ0 κ0 Q QX kc ns 183 L (.int 36 :: st) κ := by
  intro θ H hN hE hL hS
  exact qX9_init_183 hcl hsl (y_new ht (by decide) k hN hE hL (okK_tl hS))
theorem pX9_init_191 {w : W0} {θ0 : Nat → Nat} {κ0 : AH} {Q : Option Value → AH → Prop} {QX : String → AH → Prop} {kc ns : Nat} {L : List (Option Value)} {st : List Value} {κ : AH} (t : Nat) (hcl : Nat.ble (kc + 1) 24 = true) (hsl : Nat.ble (ns + 36) 2470 = true) (ht : gT κ t = 0) (k : Y w mX9_init θ0 κ0 Q QX (kc + 1) (ns + 36) 193 L (.ref t :: st) (nO κ t 11 36)) : Y w mX9_init θ0 κ0 Q QX kc ns 191 L (.int 36 :: st) κ := by
  intro θ H hN hE hL hS
  exact qX9_init_191 hcl hsl (y_new ht (by decide) k hN hE hL (okK_tl hS))
theorem pX9_init_199 {w : W0} {θ0 : Nat → Nat} {κ0 : AH} {Q : Option Value → AH → Prop} {QX : String → AH → Prop} {kc ns : Nat} {L : List (Option Value)} {st : List Value} {κ : AH} (t : Nat) (hcl : Nat.ble (kc + 1) 24 = true) (hsl : Nat.ble (ns + 30) 2470 = true) (ht : gT κ t = 0) (k : Y w mX9_init θ0 κ0 Q QX (kc + 1) (ns + 30) 201 L (.ref t :: st) (nO κ t 11 30)) : Y w mX9_init θ0 κ0 Q QX kc ns 199 L (.int 30 :: st) κ := by
  intro θ H hN hE hL hS
  exact qX9_init_199 hcl hsl (y_new ht (by decide) k hN hE hL (okK_tl hS))
theorem pX9_init_208 {w : W0} {θ0 : Nat → Nat} {κ0 : AH} {Q : Option Value → AH → Prop} {QX : String → AH → Prop} {kc ns : Nat} {L : List (Option Value)} {st : List Value} {κ : AH} (t : Nat) (hcl : Nat.ble (kc + 1) 24 = true) (hsl : Nat.ble (ns + 1080) 2470 = true) (ht : gT κ t = 0) (k : Y w mX9_init θ0 κ0 Q QX (kc + 1) (ns + 1080) 210 L (.ref t :: st) (nO κ t 11 1080)) : Y w mX9_init θ0 κ0 Q QX kc ns 208 L (.int 1080 :: st) κ := by
  intro θ H hN hE hL hS
  exact qX9_init_208 hcl hsl (y_new ht (by decide) k hN hE hL (okK_tl hS))
theorem pX9_init_216 {w : W0} {θ0 : Nat → Nat} {κ0 : AH} {Q : Option Value → AH → Prop} {QX : String → AH → Prop} {kc ns : Nat} {L : List (Option Value)} {st : List Value} {κ : AH} (t : Nat) (hcl : Nat.ble (kc + 1) 24 = true) (hsl : Nat.ble (ns + 36) 2470 = true) (ht : gT κ t = 0) (k : Y w mX9_init θ0 κ0 Q QX (kc + 1) (ns + 36) 218 L (.ref t :: st) (nO κ t 11 36)) : Y w mX9_init θ0 κ0 Q QX kc ns 216 L (.int 36 :: st) κ := by
  intro θ H hN hE hL hS
  exact qX9_init_216 hcl hsl (y_new ht (by decide) k hN hE hL (okK_tl hS))
def m0H (κ : AH) : AH := (sR (nO (sR (nO (sR (nO (sR (nO (sR (nO (sR (nO (sR (nO (sR (nO (sR (nO (sR (nO (sR (nO (sR (nO (sR (nO (sR (nO (sR (nO (sR (nO (sR (nO (sR (nO (sR (nO (sR (nO (sR (nO (sR (nO (sR (nO (sR (nO (sI (sI (sI (sI κ (tM 0) 0 6) (tM 0) 1 300) (tM 0) 3 200) (tM 0) 4 1) (tM 6) 11 4) (tM 0) 5 (some (tM 6))) (tM 10) 11 60) (tM 0) 9 (some (tM 10))) (tM 11) 11 60) (tM 0) 10 (some (tM 11))) (tM 12) 11 60) (tM 0) 11 (some (tM 12))) (tM 13) 11 60) (tM 0) 12 (some (tM 13))) (tM 14) 11 60) (tM 0) 13 (some (tM 14))) (tM 15) 11 60) (tM 0) 14 (some (tM 15))) (tM 16) 11 60) (tM 0) 15 (some (tM 16))) (tM 17) 11 60) (tM 0) 16 (some (tM 17))) (tM 18) 11 60) (tM 0) 17 (some (tM 18))) (tM 20) 11 100) (tM 0) 19 (some (tM 20))) (tM 21) 12 100) (tM 0) 20 (some (tM 21))) (tM 22) 11 100) (tM 0) 21 (some (tM 22))) (tM 23) 11 100) (tM 0) 22 (some (tM 23))) (tM 24) 11 100) (tM 0) 23 (some (tM 24))) (tM 25) 11 100) (tM 0) 24 (some (tM 25))) (tM 26) 11 36) (tM 0) 25 (some (tM 26))) (tM 27) 12 36) (tM 0) 26 (some (tM 27))) (tM 28) 11 36) (tM 0) 27 (some (tM 28))) (tM 29) 11 36) (tM 0) 28 (some (tM 29))) (tM 30) 11 36) (tM 0) 29 (some (tM 30))) (tM 32) 11 30) (tM 0) 31 (some (tM 32))) (tM 33) 11 1080) (tM 0) 32 (some (tM 33))) (tM 34) 11 36) (tM 0) 33 (some (tM 34)))
def nmH (κ : AH) : AH := flH (flH (m0H κ) (tM 6) 10 4) (tM 26) (-1) 36
theorem mkd_c {P : Nat → Prop} (h5 : P 5) (h9 : P 9) (h10 : P 10) (h11 : P 11) (h12 : P 12) (h13 : P 13) (h14 : P 14) (h15 : P 15) (h16 : P 16) (h17 : P 17) (h19 : P 19) (h20 : P 20) (h21 : P 21) (h22 : P 22) (h23 : P 23) (h24 : P 24) (h25 : P 25) (h26 : P 26) (h27 : P 27) (h28 : P 28) (h29 : P 29) (h31 : P 31) (h32 : P 32) (h33 : P 33) : ∀ k, mkd k ≠ 0 → P k := fun k h => by
  unfold mkd at h
  split at h
  · exact h5
  · exact h9
  · exact h10
  · exact h11
  · exact h12
  · exact h13
  · exact h14
  · exact h15
  · exact h16
  · exact h17
  · exact h19
  · exact h20
  · exact h21
  · exact h22
  · exact h23
  · exact h24
  · exact h25
  · exact h26
  · exact h27
  · exact h28
  · exact h29
  · exact h31
  · exact h32
  · exact h33
  · exact absurd rfl h
theorem m0_T {κ : AH} (h0 : gT κ (tM 0) = 10) : gT (m0H κ) (tM 0) = 10 := by simp [m0H, gT_sI, gT_sR, gT_nO, gN_sI, gN_sR, gN_nO, gR_sI, gR_sR, gR_nO, gI_sI, gI_sR, gI_nO, tM_inj, h0]
theorem m0_rows {κ : AH} : ∀ k, mkd k ≠ 0 → gR (m0H κ) (tM 0) k = some (tM (k + 1)) ∧ gT (m0H κ) (tM (k + 1)) = mkd k ∧ gN (m0H κ) (tM (k + 1)) = mlen k ∧ ∀ i, gI (m0H κ) (tM (k + 1)) i = 0 := by
  refine mkd_c ?_ ?_ ?_ ?_ ?_ ?_ ?_ ?_ ?_ ?_ ?_ ?_ ?_ ?_ ?_ ?_ ?_ ?_ ?_ ?_ ?_ ?_ ?_ ?_
  all_goals simp [m0H, gT_sI, gT_sR, gT_nO, gN_sI, gN_sR, gN_nO, gR_sI, gR_sR, gR_nO, gI_sI, gI_sR, gI_nO, tM_inj, mkd, mlen]
theorem m0_I {κ : AH} (hz : ∀ k, gI κ (tM 0) k = 0) (j : Nat) : gI (m0H κ) (tM 0) j = σ0.1 j := by
  have e : gI (m0H κ) (tM 0) j = if j = 4 then 1 else if j = 3 then 200 else if j = 1 then 300 else if j = 0 then 6 else gI κ (tM 0) j := by simp [m0H, gT_sI, gT_sR, gT_nO, gN_sI, gN_sR, gN_nO, gR_sI, gR_sR, gR_nO, gI_sI, gI_sR, gI_nO, tM_inj]
  rw [e, hz]
  show _ = if j = 0 then 6 else if j = 1 then 300 else if j = 3 then 200 else if j = 4 then 1 else 0
  by_cases e0 : j = 0
  · subst e0; rfl
  · by_cases e1 : j = 1
    · subst e1; rfl
    · by_cases e3 : j = 3
      · subst e3; rfl
      · by_cases e4 : j = 4
        · subst e4; rfl
        · simp only [if_neg e0, if_neg e1, if_neg e3, if_neg e4]
theorem nm_JT {κ : AH} (h0 : gT κ (tM 0) = 10) : JT (nmH κ) := by
  refine ⟨(flH_T _).trans ((flH_T _).trans (m0_T h0)), fun k hk => ?_⟩
  obtain ⟨a, b, c, d⟩ := m0_rows (κ := κ) k hk
  exact ⟨(flH_R _).trans ((flH_R _).trans a), (flH_T _).trans ((flH_T _).trans b), (flH_N _).trans ((flH_N _).trans c)⟩
theorem nm_JM {κ : AH} (hz : ∀ k, gI κ (tM 0) k = 0) : JM (nmH κ) σ0 := by
  refine ⟨fun k => ?_, fun k hk i => ?_⟩
  · unfold nmH
    rw [flH_I, if_neg (fun z => absurd (tM_inj.mp z.1) (by decide)), flH_I, if_neg (fun z => absurd (tM_inj.mp z.1) (by decide)), m0_I hz]
  · obtain ⟨a, b, c, d⟩ := m0_rows (κ := κ) k hk
    unfold nmH
    rw [flH_I, flH_I, d]
    show _ = if k = 5 ∧ i < 4 then (10 : Int32) else if k = 25 ∧ i < 36 then -1 else 0
    simp only [tM_inj]
    by_cases e5 : k = 5
    · subst e5; simp
    · by_cases e25 : k = 25
      · subst e25; simp
      · rw [if_neg (fun z => e25 (by omega)), if_neg (fun z => e5 (by omega)), if_neg (fun z => e5 z.1), if_neg (fun z => e25 z.1)]
theorem fl_D {κ : AH} {a : Nat} {x : Int32} : ∀ k, Dif (fun t => t = a) κ (flH κ a x k)
  | 0 => Dif.rfl'
  | k + 1 => (fl_D k).sI rfl
theorem nm_D {κ : AH} : Dif (fun t => ∃ i, i < 40 ∧ t = tM i) κ (nmH κ) := by
  have d : Dif (fun t => ∃ i, i < 40 ∧ t = tM i) κ (m0H κ) := by
    unfold m0H
    repeat' first | exact Dif.rfl' | exact ⟨_, by decide, rfl⟩ | apply Dif.sI | apply Dif.sR | apply Dif.nO
  exact (d.tr ((fl_D 4).mono fun t z => ⟨6, by decide, z⟩)).tr ((fl_D 36).mono fun t z => ⟨26, by decide, z⟩)
set_option maxRecDepth 20000 in
theorem c_X9_init {w : W0} {κ : AH} (h0 : gT κ (tM 0) = 10) (hf : ∀ k, mkd k ≠ 0 → gT κ (tM (k + 1)) = 0) (hz : ∀ k, gI κ (tM 0) k = 0) : CY w yX9_init mX9_init [.ref (tM 0)] κ (fun v κ' => v = none ∧ κ' = nmH κ) := by
  refine CY_of mcX9_init (Nat.le_of_ble_eq_true rfl) (cat1 rfl) (fun θ0 => ?_)
  have loop244 : ∀ (m k : Nat), k ≤ 36 → 36 ≤ m + k → Y w mX9_init θ0 κ (fun v κ' => v = none ∧ κ' = nmH κ) (fun _ _ => False) 24 2470 244 [some (.ref (tM 0)), some (.int (nI k))] [] (flH (flH (m0H κ) (tM 6) 10 4) (tM 26) (-1) k) := by
    intro m
    induction m with
    | zero =>
      intro k hk1 hk2
      have hex : 36 ≤ nI k → k = 36 := by intro z; have := (nI_leI (a := 36) (by decide) (by omega)).mp z; omega
      have hlt : ¬ 36 ≤ nI k → k < 36 := by intro z; exact Nat.lt_of_not_le (fun q => z (nI_le (a := 36) q (by omega)))
      refine runY_go rkX9_init (fun p => Nat.beq p 223 || Nat.beq p 244) 200 rfl ?_
      refine And.intro (fun c0 => ?_) (fun c0 => ?_)
      · skip
        refine And.intro ⟨(show _ ≤ _ by decide), (show _ ≤ _ by decide)⟩ ?_
        have hk := hex (by assumption)
        subst hk
        exact ⟨rfl, rfl⟩
      · exact absurd (hlt c0) (by omega)
    | succ m ih =>
      intro k hk1 hk2
      have hex : 36 ≤ nI k → k = 36 := by intro z; have := (nI_leI (a := 36) (by decide) (by omega)).mp z; omega
      have hlt : ¬ 36 ≤ nI k → k < 36 := by intro z; exact Nat.lt_of_not_le (fun q => z (nI_le (a := 36) q (by omega)))
      refine runY_go rkX9_init (fun p => Nat.beq p 223 || Nat.beq p 244) 200 rfl ?_
      refine And.intro (fun c1 => ?_) (fun c1 => ?_)
      · skip
        refine And.intro ⟨(show _ ≤ _ by decide), (show _ ≤ _ by decide)⟩ ?_
        have hk := hex (by assumption)
        subst hk
        exact ⟨rfl, rfl⟩
      · skip
        refine And.intro ((flH_T _).trans ((flH_T _).trans (m0_T h0))) ⟨some (tM 26), ((flH_R _).trans ((flH_R _).trans (m0_rows 25 (by decide)).1)), ?_⟩
        refine And.intro ⟨((flH_T _).trans ((flH_T _).trans (m0_rows 25 (by decide)).2.1)), (by rw [show gN (flH (flH (m0H κ) (tM 6) 10 4) (tM 26) (-1) k) (tM 26) = 36 from (flH_N _).trans ((flH_N _).trans (m0_rows 25 (by decide)).2.2.1)]; exact vp_in_nI (hlt (by assumption)) (by decide))⟩ ?_
        have e9 := ih (k + 1) (by have := hlt (by assumption); omega) (by omega)
        rw [← nI_1 k] at e9
        rw [nI_clamp (n := k) (by omega)]
        exact e9
  have loop223 : ∀ (m k : Nat), k ≤ 4 → 4 ≤ m + k → Y w mX9_init θ0 κ (fun v κ' => v = none ∧ κ' = nmH κ) (fun _ _ => False) 24 2470 223 [some (.ref (tM 0)), some (.int (nI k))] [] (flH (m0H κ) (tM 6) 10 k) := by
    intro m
    induction m with
    | zero =>
      intro k hk1 hk2
      have hex : 4 ≤ nI k → k = 4 := by intro z; have := (nI_leI (a := 4) (by decide) (by omega)).mp z; omega
      have hlt : ¬ 4 ≤ nI k → k < 4 := by intro z; exact Nat.lt_of_not_le (fun q => z (nI_le (a := 4) q (by omega)))
      refine runY_go rkX9_init (fun p => Nat.beq p 223 || Nat.beq p 244) 200 rfl ?_
      refine And.intro (fun c0 => ?_) (fun c0 => ?_)
      · skip
        have hk := hex (by assumption)
        subst hk
        exact loop244 36 0 (by omega) (by omega)
      · exact absurd (hlt c0) (by omega)
    | succ m ih =>
      intro k hk1 hk2
      have hex : 4 ≤ nI k → k = 4 := by intro z; have := (nI_leI (a := 4) (by decide) (by omega)).mp z; omega
      have hlt : ¬ 4 ≤ nI k → k < 4 := by intro z; exact Nat.lt_of_not_le (fun q => z (nI_le (a := 4) q (by omega)))
      refine runY_go rkX9_init (fun p => Nat.beq p 223 || Nat.beq p 244) 200 rfl ?_
      refine And.intro (fun c2 => ?_) (fun c2 => ?_)
      · skip
        have hk := hex (by assumption)
        subst hk
        exact loop244 36 0 (by omega) (by omega)
      · skip
        refine And.intro ((flH_T _).trans (m0_T h0)) ⟨some (tM 6), ((flH_R _).trans (m0_rows 5 (by decide)).1), ?_⟩
        refine And.intro ⟨((flH_T _).trans (m0_rows 5 (by decide)).2.1), (by rw [show gN (flH (m0H κ) (tM 6) 10 k) (tM 6) = 4 from (flH_N _).trans (m0_rows 5 (by decide)).2.2.1]; exact vp_in_nI (hlt (by assumption)) (by decide))⟩ ?_
        have e9 := ih (k + 1) (by have := hlt (by assumption); omega) (by omega)
        rw [← nI_1 k] at e9
        rw [nI_clamp (n := k) (by omega)]
        exact e9
  refine runY_ok rkX9_init (fun p => Nat.beq p 223 || Nat.beq p 244) 200 _ _ _ _ _ _ ?_
  refine pX9_init_1 rfl ?_
  refine runY_ok rkX9_init (fun p => Nat.beq p 223 || Nat.beq p 244) 200 _ _ _ _ _ _ ?_
  refine And.intro (by simp [gT_sI, gT_sR, gT_nO, gN_sI, gN_sR, gN_nO, gR_sI, gR_sR, gR_nO, gI_sI, gI_sR, gI_nO, tM_inj, h0]) ?_
  refine And.intro (by simp [gT_sI, gT_sR, gT_nO, gN_sI, gN_sR, gN_nO, gR_sI, gR_sR, gR_nO, gI_sI, gI_sR, gI_nO, tM_inj, h0]) ?_
  refine And.intro (by simp [gT_sI, gT_sR, gT_nO, gN_sI, gN_sR, gN_nO, gR_sI, gR_sR, gR_nO, gI_sI, gI_sR, gI_nO, tM_inj, h0]) ?_
  refine And.intro (by simp [gT_sI, gT_sR, gT_nO, gN_sI, gN_sR, gN_nO, gR_sI, gR_sR, gR_nO, gI_sI, gI_sR, gI_nO, tM_inj, h0]) ?_
  refine pX9_init_31 (tM 6) rfl rfl (by simp [gT_sI, gT_sR, gT_nO, gN_sI, gN_sR, gN_nO, gR_sI, gR_sR, gR_nO, gI_sI, gI_sR, gI_nO, tM_inj, hf 5 (by decide)]) ?_
  refine runY_ok rkX9_init (fun p => Nat.beq p 223 || Nat.beq p 244) 200 _ _ _ _ _ _ ?_
  refine And.intro (by simp [gT_sI, gT_sR, gT_nO, gN_sI, gN_sR, gN_nO, gR_sI, gR_sR, gR_nO, gI_sI, gI_sR, gI_nO, tM_inj, h0]) ?_
  refine pX9_init_39 (tM 10) rfl rfl (by simp [gT_sI, gT_sR, gT_nO, gN_sI, gN_sR, gN_nO, gR_sI, gR_sR, gR_nO, gI_sI, gI_sR, gI_nO, tM_inj, hf 9 (by decide)]) ?_
  refine runY_ok rkX9_init (fun p => Nat.beq p 223 || Nat.beq p 244) 200 _ _ _ _ _ _ ?_
  refine And.intro (by simp [gT_sI, gT_sR, gT_nO, gN_sI, gN_sR, gN_nO, gR_sI, gR_sR, gR_nO, gI_sI, gI_sR, gI_nO, tM_inj, h0]) ?_
  refine pX9_init_47 (tM 11) rfl rfl (by simp [gT_sI, gT_sR, gT_nO, gN_sI, gN_sR, gN_nO, gR_sI, gR_sR, gR_nO, gI_sI, gI_sR, gI_nO, tM_inj, hf 10 (by decide)]) ?_
  refine runY_ok rkX9_init (fun p => Nat.beq p 223 || Nat.beq p 244) 200 _ _ _ _ _ _ ?_
  refine And.intro (by simp [gT_sI, gT_sR, gT_nO, gN_sI, gN_sR, gN_nO, gR_sI, gR_sR, gR_nO, gI_sI, gI_sR, gI_nO, tM_inj, h0]) ?_
  refine pX9_init_55 (tM 12) rfl rfl (by simp [gT_sI, gT_sR, gT_nO, gN_sI, gN_sR, gN_nO, gR_sI, gR_sR, gR_nO, gI_sI, gI_sR, gI_nO, tM_inj, hf 11 (by decide)]) ?_
  refine runY_ok rkX9_init (fun p => Nat.beq p 223 || Nat.beq p 244) 200 _ _ _ _ _ _ ?_
  refine And.intro (by simp [gT_sI, gT_sR, gT_nO, gN_sI, gN_sR, gN_nO, gR_sI, gR_sR, gR_nO, gI_sI, gI_sR, gI_nO, tM_inj, h0]) ?_
  refine pX9_init_63 (tM 13) rfl rfl (by simp [gT_sI, gT_sR, gT_nO, gN_sI, gN_sR, gN_nO, gR_sI, gR_sR, gR_nO, gI_sI, gI_sR, gI_nO, tM_inj, hf 12 (by decide)]) ?_
  refine runY_ok rkX9_init (fun p => Nat.beq p 223 || Nat.beq p 244) 200 _ _ _ _ _ _ ?_
  refine And.intro (by simp [gT_sI, gT_sR, gT_nO, gN_sI, gN_sR, gN_nO, gR_sI, gR_sR, gR_nO, gI_sI, gI_sR, gI_nO, tM_inj, h0]) ?_
  refine pX9_init_71 (tM 14) rfl rfl (by simp [gT_sI, gT_sR, gT_nO, gN_sI, gN_sR, gN_nO, gR_sI, gR_sR, gR_nO, gI_sI, gI_sR, gI_nO, tM_inj, hf 13 (by decide)]) ?_
  refine runY_ok rkX9_init (fun p => Nat.beq p 223 || Nat.beq p 244) 200 _ _ _ _ _ _ ?_
  refine And.intro (by simp [gT_sI, gT_sR, gT_nO, gN_sI, gN_sR, gN_nO, gR_sI, gR_sR, gR_nO, gI_sI, gI_sR, gI_nO, tM_inj, h0]) ?_
  refine pX9_init_79 (tM 15) rfl rfl (by simp [gT_sI, gT_sR, gT_nO, gN_sI, gN_sR, gN_nO, gR_sI, gR_sR, gR_nO, gI_sI, gI_sR, gI_nO, tM_inj, hf 14 (by decide)]) ?_
  refine runY_ok rkX9_init (fun p => Nat.beq p 223 || Nat.beq p 244) 200 _ _ _ _ _ _ ?_
  refine And.intro (by simp [gT_sI, gT_sR, gT_nO, gN_sI, gN_sR, gN_nO, gR_sI, gR_sR, gR_nO, gI_sI, gI_sR, gI_nO, tM_inj, h0]) ?_
  refine pX9_init_87 (tM 16) rfl rfl (by simp [gT_sI, gT_sR, gT_nO, gN_sI, gN_sR, gN_nO, gR_sI, gR_sR, gR_nO, gI_sI, gI_sR, gI_nO, tM_inj, hf 15 (by decide)]) ?_
  refine runY_ok rkX9_init (fun p => Nat.beq p 223 || Nat.beq p 244) 200 _ _ _ _ _ _ ?_
  refine And.intro (by simp [gT_sI, gT_sR, gT_nO, gN_sI, gN_sR, gN_nO, gR_sI, gR_sR, gR_nO, gI_sI, gI_sR, gI_nO, tM_inj, h0]) ?_
  refine pX9_init_95 (tM 17) rfl rfl (by simp [gT_sI, gT_sR, gT_nO, gN_sI, gN_sR, gN_nO, gR_sI, gR_sR, gR_nO, gI_sI, gI_sR, gI_nO, tM_inj, hf 16 (by decide)]) ?_
  refine runY_ok rkX9_init (fun p => Nat.beq p 223 || Nat.beq p 244) 200 _ _ _ _ _ _ ?_
  refine And.intro (by simp [gT_sI, gT_sR, gT_nO, gN_sI, gN_sR, gN_nO, gR_sI, gR_sR, gR_nO, gI_sI, gI_sR, gI_nO, tM_inj, h0]) ?_
  refine pX9_init_103 (tM 18) rfl rfl (by simp [gT_sI, gT_sR, gT_nO, gN_sI, gN_sR, gN_nO, gR_sI, gR_sR, gR_nO, gI_sI, gI_sR, gI_nO, tM_inj, hf 17 (by decide)]) ?_
  refine runY_ok rkX9_init (fun p => Nat.beq p 223 || Nat.beq p 244) 200 _ _ _ _ _ _ ?_
  refine And.intro (by simp [gT_sI, gT_sR, gT_nO, gN_sI, gN_sR, gN_nO, gR_sI, gR_sR, gR_nO, gI_sI, gI_sR, gI_nO, tM_inj, h0]) ?_
  refine pX9_init_111 (tM 20) rfl rfl (by simp [gT_sI, gT_sR, gT_nO, gN_sI, gN_sR, gN_nO, gR_sI, gR_sR, gR_nO, gI_sI, gI_sR, gI_nO, tM_inj, hf 19 (by decide)]) ?_
  refine runY_ok rkX9_init (fun p => Nat.beq p 223 || Nat.beq p 244) 200 _ _ _ _ _ _ ?_
  refine And.intro (by simp [gT_sI, gT_sR, gT_nO, gN_sI, gN_sR, gN_nO, gR_sI, gR_sR, gR_nO, gI_sI, gI_sR, gI_nO, tM_inj, h0]) ?_
  refine pX9_init_119 (tM 21) rfl rfl (by simp [gT_sI, gT_sR, gT_nO, gN_sI, gN_sR, gN_nO, gR_sI, gR_sR, gR_nO, gI_sI, gI_sR, gI_nO, tM_inj, hf 20 (by decide)]) ?_
  refine runY_ok rkX9_init (fun p => Nat.beq p 223 || Nat.beq p 244) 200 _ _ _ _ _ _ ?_
  refine And.intro (by simp [gT_sI, gT_sR, gT_nO, gN_sI, gN_sR, gN_nO, gR_sI, gR_sR, gR_nO, gI_sI, gI_sR, gI_nO, tM_inj, h0]) ?_
  refine pX9_init_127 (tM 22) rfl rfl (by simp [gT_sI, gT_sR, gT_nO, gN_sI, gN_sR, gN_nO, gR_sI, gR_sR, gR_nO, gI_sI, gI_sR, gI_nO, tM_inj, hf 21 (by decide)]) ?_
  refine runY_ok rkX9_init (fun p => Nat.beq p 223 || Nat.beq p 244) 200 _ _ _ _ _ _ ?_
  refine And.intro (by simp [gT_sI, gT_sR, gT_nO, gN_sI, gN_sR, gN_nO, gR_sI, gR_sR, gR_nO, gI_sI, gI_sR, gI_nO, tM_inj, h0]) ?_
  refine pX9_init_135 (tM 23) rfl rfl (by simp [gT_sI, gT_sR, gT_nO, gN_sI, gN_sR, gN_nO, gR_sI, gR_sR, gR_nO, gI_sI, gI_sR, gI_nO, tM_inj, hf 22 (by decide)]) ?_
  refine runY_ok rkX9_init (fun p => Nat.beq p 223 || Nat.beq p 244) 200 _ _ _ _ _ _ ?_
  refine And.intro (by simp [gT_sI, gT_sR, gT_nO, gN_sI, gN_sR, gN_nO, gR_sI, gR_sR, gR_nO, gI_sI, gI_sR, gI_nO, tM_inj, h0]) ?_
  refine pX9_init_143 (tM 24) rfl rfl (by simp [gT_sI, gT_sR, gT_nO, gN_sI, gN_sR, gN_nO, gR_sI, gR_sR, gR_nO, gI_sI, gI_sR, gI_nO, tM_inj, hf 23 (by decide)]) ?_
  refine runY_ok rkX9_init (fun p => Nat.beq p 223 || Nat.beq p 244) 200 _ _ _ _ _ _ ?_
  refine And.intro (by simp [gT_sI, gT_sR, gT_nO, gN_sI, gN_sR, gN_nO, gR_sI, gR_sR, gR_nO, gI_sI, gI_sR, gI_nO, tM_inj, h0]) ?_
  refine pX9_init_151 (tM 25) rfl rfl (by simp [gT_sI, gT_sR, gT_nO, gN_sI, gN_sR, gN_nO, gR_sI, gR_sR, gR_nO, gI_sI, gI_sR, gI_nO, tM_inj, hf 24 (by decide)]) ?_
  refine runY_ok rkX9_init (fun p => Nat.beq p 223 || Nat.beq p 244) 200 _ _ _ _ _ _ ?_
  refine And.intro (by simp [gT_sI, gT_sR, gT_nO, gN_sI, gN_sR, gN_nO, gR_sI, gR_sR, gR_nO, gI_sI, gI_sR, gI_nO, tM_inj, h0]) ?_
  refine pX9_init_159 (tM 26) rfl rfl (by simp [gT_sI, gT_sR, gT_nO, gN_sI, gN_sR, gN_nO, gR_sI, gR_sR, gR_nO, gI_sI, gI_sR, gI_nO, tM_inj, hf 25 (by decide)]) ?_
  refine runY_ok rkX9_init (fun p => Nat.beq p 223 || Nat.beq p 244) 200 _ _ _ _ _ _ ?_
  refine And.intro (by simp [gT_sI, gT_sR, gT_nO, gN_sI, gN_sR, gN_nO, gR_sI, gR_sR, gR_nO, gI_sI, gI_sR, gI_nO, tM_inj, h0]) ?_
  refine pX9_init_167 (tM 27) rfl rfl (by simp [gT_sI, gT_sR, gT_nO, gN_sI, gN_sR, gN_nO, gR_sI, gR_sR, gR_nO, gI_sI, gI_sR, gI_nO, tM_inj, hf 26 (by decide)]) ?_
  refine runY_ok rkX9_init (fun p => Nat.beq p 223 || Nat.beq p 244) 200 _ _ _ _ _ _ ?_
  refine And.intro (by simp [gT_sI, gT_sR, gT_nO, gN_sI, gN_sR, gN_nO, gR_sI, gR_sR, gR_nO, gI_sI, gI_sR, gI_nO, tM_inj, h0]) ?_
  refine pX9_init_175 (tM 28) rfl rfl (by simp [gT_sI, gT_sR, gT_nO, gN_sI, gN_sR, gN_nO, gR_sI, gR_sR, gR_nO, gI_sI, gI_sR, gI_nO, tM_inj, hf 27 (by decide)]) ?_
  refine runY_ok rkX9_init (fun p => Nat.beq p 223 || Nat.beq p 244) 200 _ _ _ _ _ _ ?_
  refine And.intro (by simp [gT_sI, gT_sR, gT_nO, gN_sI, gN_sR, gN_nO, gR_sI, gR_sR, gR_nO, gI_sI, gI_sR, gI_nO, tM_inj, h0]) ?_
  refine pX9_init_183 (tM 29) rfl rfl (by simp [gT_sI, gT_sR, gT_nO, gN_sI, gN_sR, gN_nO, gR_sI, gR_sR, gR_nO, gI_sI, gI_sR, gI_nO, tM_inj, hf 28 (by decide)]) ?_
  refine runY_ok rkX9_init (fun p => Nat.beq p 223 || Nat.beq p 244) 200 _ _ _ _ _ _ ?_
  refine And.intro (by simp [gT_sI, gT_sR, gT_nO, gN_sI, gN_sR, gN_nO, gR_sI, gR_sR, gR_nO, gI_sI, gI_sR, gI_nO, tM_inj, h0]) ?_
  refine pX9_init_191 (tM 30) rfl rfl (by simp [gT_sI, gT_sR, gT_nO, gN_sI, gN_sR, gN_nO, gR_sI, gR_sR, gR_nO, gI_sI, gI_sR, gI_nO, tM_inj, hf 29 (by decide)]) ?_
  refine runY_ok rkX9_init (fun p => Nat.beq p 223 || Nat.beq p 244) 200 _ _ _ _ _ _ ?_
  refine And.intro (by simp [gT_sI, gT_sR, gT_nO, gN_sI, gN_sR, gN_nO, gR_sI, gR_sR, gR_nO, gI_sI, gI_sR, gI_nO, tM_inj, h0]) ?_
  refine pX9_init_199 (tM 32) rfl rfl (by simp [gT_sI, gT_sR, gT_nO, gN_sI, gN_sR, gN_nO, gR_sI, gR_sR, gR_nO, gI_sI, gI_sR, gI_nO, tM_inj, hf 31 (by decide)]) ?_
  refine runY_ok rkX9_init (fun p => Nat.beq p 223 || Nat.beq p 244) 200 _ _ _ _ _ _ ?_
  refine And.intro (by simp [gT_sI, gT_sR, gT_nO, gN_sI, gN_sR, gN_nO, gR_sI, gR_sR, gR_nO, gI_sI, gI_sR, gI_nO, tM_inj, h0]) ?_
  refine pX9_init_208 (tM 33) rfl rfl (by simp [gT_sI, gT_sR, gT_nO, gN_sI, gN_sR, gN_nO, gR_sI, gR_sR, gR_nO, gI_sI, gI_sR, gI_nO, tM_inj, hf 32 (by decide)]) ?_
  refine runY_ok rkX9_init (fun p => Nat.beq p 223 || Nat.beq p 244) 200 _ _ _ _ _ _ ?_
  refine And.intro (by simp [gT_sI, gT_sR, gT_nO, gN_sI, gN_sR, gN_nO, gR_sI, gR_sR, gR_nO, gI_sI, gI_sR, gI_nO, tM_inj, h0]) ?_
  refine pX9_init_216 (tM 34) rfl rfl (by simp [gT_sI, gT_sR, gT_nO, gN_sI, gN_sR, gN_nO, gR_sI, gR_sR, gR_nO, gI_sI, gI_sR, gI_nO, tM_inj, hf 33 (by decide)]) ?_
  refine runY_ok rkX9_init (fun p => Nat.beq p 223 || Nat.beq p 244) 200 _ _ _ _ _ _ ?_
  refine And.intro (by simp [gT_sI, gT_sR, gT_nO, gN_sI, gN_sR, gN_nO, gR_sI, gR_sR, gR_nO, gI_sI, gI_sR, gI_nO, tM_inj, h0]) ?_
  exact loop223 4 0 (by omega) (by omega)

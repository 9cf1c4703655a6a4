
/-! THE LAW'S SITES, where its script lies outside -/
theorem ys_new {w : W0} {Qv : Option Value → Prop} {kc ns pc : Nat} {L : List (Option Value)} {st : List Value} {κ H : AH} {θ : Nat → Nat} {t c n : Nat} (ht : gT κ t = 0) (hc : c ≠ 0) (h40 : t ≠ tM 40) (k : YS w Qv kc ns pc L (.ref t :: st) (nO κ t c n)) (hN : RN θ κ H) (hX : θ (tM 40) = w.aX) (hL : okLS κ L) (hS : okKS κ st) : ∀ q, gT H q = 0 → X w mL_law (fun v _ => Qv v) (fun _ _ => False) kc ns pc (rnL θ L) (.ref q :: st.map (rnV θ)) (nO H q c n) := by
  intro q hq
  obtain ⟨a, b⟩ := hN.new (n := n) ht hq hc
  have up : ∀ x, gT κ x ≠ 0 → upN θ t q x = θ x := fun x hx => (b x hx).2.2
  have up40 : upN θ t q (tM 40) = θ (tM 40) := upN_n (fun z => h40 z.symm)
  have al : ∀ x, gT κ x ≠ 0 → gT (nO κ t c n) x ≠ 0 := fun x hx => by rw [(b x hx).1]; exact hx
  have h := k (upN θ t q) (nO H q c n) a (up40.trans hX) (fun v hv => okVS_ext al (hL v hv)) (okKS_cons (Or.inr (by show gT (nO κ t c n) t ≠ 0; rw [gT_nO, if_pos rfl]; exact hc)) (fun v hv => okVS_ext al (hS v hv)))
  have eL : rnL (upN θ t q) L = rnL θ L := List.map_congr_left fun v hv => by
    cases v with
    | none => rfl
    | some v => exact congrArg some (rnVS up up40 (hL v hv))
  have eS : st.map (rnV (upN θ t q)) = st.map (rnV θ) := List.map_congr_left fun v hv => rnVS up up40 (hS v hv)
  rw [eL, List.map_cons, eS] at h
  have e : rnV (upN θ t q) (.ref t) = .ref q := congrArg Value.ref (upN_s θ t q)
  rw [e] at h
  exact h
theorem sL_law_0 {w : W0} {Qv : Option Value → Prop} {kc ns : Nat} {L : List (Option Value)} {st : List Value} {κ : AH} (t : Nat) (hcl : Nat.ble (kc + 1) 600074 = true) (hsl : Nat.ble (ns + 15) 7301550 = true) (ht : gT κ t = 0) (h40 : t ≠ tM 40) (k : YS w Qv (kc + 1) (ns + 15) 3 L (.ref t :: st) (nO κ t 9 0)) : YS w Qv kc ns 0 L (st) κ := by
  intro θ H hN hX hL hS
  exact qL_law_0 hcl hsl (ys_new ht (by decide) h40 k hN hX hL hS)
theorem sL_law_4 {w : W0} {Qv : Option Value → Prop} {kc ns : Nat} {L : List (Option Value)} {st : List Value} {κ : AH} {b : Nat} {Q' : Option Value → AH → Prop} (hst : Nat.ble (st.map fun v => v.category).sum 8 = true) (hcl : Nat.ble (kc + 10) 600074 = true) (hsl : Nat.ble (ns + 576) 7301550 = true) (hok : okK κ (.ref b :: [])) (hc : CY w yX8_init mX8_init (.ref b :: []) κ Q') (k : ∀ v κ', Q' v κ' → okO κ' v → Keep κ κ' → gT κ' (tM 40) = 0 ∧ YS w Qv (kc + 10) (ns + 576) 7 L (v.toList ++ st) κ') : YS w Qv kc ns 4 L (.ref b :: st) κ := by
  intro θ H hN hX hL hS
  exact qL_law_4 (hst_rn θ hst) hcl hsl (hc θ H hN hok) (ys_k hX k hL (okKS_tl hS))
theorem sL_law_10 {w : W0} {Qv : Option Value → Prop} {kc ns : Nat} {L : List (Option Value)} {st : List Value} {κ : AH} (t : Nat) (hcl : Nat.ble (kc + 1) 600074 = true) (hsl : Nat.ble (ns + 40) 7301550 = true) (ht : gT κ t = 0) (h40 : t ≠ tM 40) (k : YS w Qv (kc + 1) (ns + 40) 12 L (.ref t :: st) (nO κ t 11 40)) : YS w Qv kc ns 10 L (.int 40 :: st) κ := by
  intro θ H hN hX hL hS
  exact qL_law_10 hcl hsl (ys_new ht (by decide) h40 k hN hX hL (okKS_tl hS))
theorem sL_law_15 {w : W0} {Qv : Option Value → Prop} {kc ns : Nat} {L : List (Option Value)} {st : List Value} {κ : AH} (t : Nat) (hcl : Nat.ble (kc + 1) 600074 = true) (hsl : Nat.ble (ns + 40) 7301550 = true) (ht : gT κ t = 0) (h40 : t ≠ tM 40) (k : YS w Qv (kc + 1) (ns + 40) 17 L (.ref t :: st) (nO κ t 11 40)) : YS w Qv kc ns 15 L (.int 40 :: st) κ := by
  intro θ H hN hX hL hS
  exact qL_law_15 hcl hsl (ys_new ht (by decide) h40 k hN hX hL (okKS_tl hS))
theorem sL_law_20 {w : W0} {Qv : Option Value → Prop} {kc ns : Nat} {L : List (Option Value)} {st : List Value} {κ : AH} (t : Nat) (hcl : Nat.ble (kc + 1) 600074 = true) (hsl : Nat.ble (ns + 40) 7301550 = true) (ht : gT κ t = 0) (h40 : t ≠ tM 40) (k : YS w Qv (kc + 1) (ns + 40) 22 L (.ref t :: st) (nO κ t 11 40)) : YS w Qv kc ns 20 L (.int 40 :: st) κ := by
  intro θ H hN hX hL hS
  exact qL_law_20 hcl hsl (ys_new ht (by decide) h40 k hN hX hL (okKS_tl hS))
theorem sL_law_26 {w : W0} {Qv : Option Value → Prop} {kc ns : Nat} {L : List (Option Value)} {st : List Value} {κ : AH} (t : Nat) (hcl : Nat.ble (kc + 1) 600074 = true) (hsl : Nat.ble (ns + 40) 7301550 = true) (ht : gT κ t = 0) (h40 : t ≠ tM 40) (k : YS w Qv (kc + 1) (ns + 40) 28 L (.ref t :: st) (nO κ t 11 40)) : YS w Qv kc ns 26 L (.int 40 :: st) κ := by
  intro θ H hN hX hL hS
  exact qL_law_26 hcl hsl (ys_new ht (by decide) h40 k hN hX hL (okKS_tl hS))
theorem sL_law_32 {w : W0} {Qv : Option Value → Prop} {kc ns : Nat} {L : List (Option Value)} {st : List Value} {κ : AH} (t : Nat) (hcl : Nat.ble (kc + 1) 600074 = true) (hsl : Nat.ble (ns + 40) 7301550 = true) (ht : gT κ t = 0) (h40 : t ≠ tM 40) (k : YS w Qv (kc + 1) (ns + 40) 34 L (.ref t :: st) (nO κ t 11 40)) : YS w Qv kc ns 32 L (.int 40 :: st) κ := by
  intro θ H hN hX hL hS
  exact qL_law_32 hcl hsl (ys_new ht (by decide) h40 k hN hX hL (okKS_tl hS))
theorem sL_law_38 {w : W0} {Qv : Option Value → Prop} {kc ns : Nat} {L : List (Option Value)} {st : List Value} {κ : AH} (t : Nat) (hcl : Nat.ble (kc + 1) 600074 = true) (hsl : Nat.ble (ns + 40) 7301550 = true) (ht : gT κ t = 0) (h40 : t ≠ tM 40) (k : YS w Qv (kc + 1) (ns + 40) 40 L (.ref t :: st) (nO κ t 11 40)) : YS w Qv kc ns 38 L (.int 40 :: st) κ := by
  intro θ H hN hX hL hS
  exact qL_law_38 hcl hsl (ys_new ht (by decide) h40 k hN hX hL (okKS_tl hS))
theorem sL_law_44 {w : W0} {Qv : Option Value → Prop} {kc ns : Nat} {L : List (Option Value)} {st : List Value} {κ : AH} (t : Nat) (hcl : Nat.ble (kc + 1) 600074 = true) (hsl : Nat.ble (ns + 61) 7301550 = true) (ht : gT κ t = 0) (h40 : t ≠ tM 40) (k : YS w Qv (kc + 1) (ns + 61) 46 L (.ref t :: st) (nO κ t 11 61)) : YS w Qv kc ns 44 L (.int 61 :: st) κ := by
  intro θ H hN hX hL hS
  exact qL_law_44 hcl hsl (ys_new ht (by decide) h40 k hN hX hL (okKS_tl hS))
theorem sL_law_50 {w : W0} {Qv : Option Value → Prop} {kc ns : Nat} {L : List (Option Value)} {st : List Value} {κ : AH} (t : Nat) (hcl : Nat.ble (kc + 1) 600074 = true) (hsl : Nat.ble (ns + 36) 7301550 = true) (ht : gT κ t = 0) (h40 : t ≠ tM 40) (k : YS w Qv (kc + 1) (ns + 36) 52 L (.ref t :: st) (nO κ t 11 36)) : YS w Qv kc ns 50 L (.int 36 :: st) κ := by
  intro θ H hN hX hL hS
  exact qL_law_50 hcl hsl (ys_new ht (by decide) h40 k hN hX hL (okKS_tl hS))
theorem sL_law_56 {w : W0} {Qv : Option Value → Prop} {kc ns : Nat} {L : List (Option Value)} {st : List Value} {κ : AH} (t : Nat) (hcl : Nat.ble (kc + 1) 600074 = true) (hsl : Nat.ble (ns + 37) 7301550 = true) (ht : gT κ t = 0) (h40 : t ≠ tM 40) (k : YS w Qv (kc + 1) (ns + 37) 58 L (.ref t :: st) (nO κ t 11 37)) : YS w Qv kc ns 56 L (.int 37 :: st) κ := by
  intro θ H hN hX hL hS
  exact qL_law_56 hcl hsl (ys_new ht (by decide) h40 k hN hX hL (okKS_tl hS))
theorem sL_law_62 {w : W0} {Qv : Option Value → Prop} {kc ns : Nat} {L : List (Option Value)} {st : List Value} {κ : AH} (t : Nat) (hcl : Nat.ble (kc + 1) 600074 = true) (hsl : Nat.ble (ns + 13) 7301550 = true) (ht : gT κ t = 0) (h40 : t ≠ tM 40) (k : YS w Qv (kc + 1) (ns + 13) 64 L (.ref t :: st) (nO κ t 11 13)) : YS w Qv kc ns 62 L (.int 13 :: st) κ := by
  intro θ H hN hX hL hS
  exact qL_law_62 hcl hsl (ys_new ht (by decide) h40 k hN hX hL (okKS_tl hS))
theorem sL_law_133 {w : W0} {Qv : Option Value → Prop} {kc ns : Nat} {L : List (Option Value)} {st : List Value} {κ : AH} {a1 a2 a3 a4 a5 a6 a7 a8 : Value} {Q' : Option Value → AH → Prop} (hst : Nat.ble (st.map fun v => v.category).sum 8 = true) (hcl : Nat.ble (kc + 15) 600074 = true) (hsl : Nat.ble (ns + 576) 7301550 = true) (hok : okK κ [a1, a2, a3, a4, a5, a6, a7, a8]) (hc : CYH w yL_does mL_does [a1, a2, a3, a4, a5, a6, a7, a8] κ Q') (k : ∀ v κ', Q' v κ' → okO κ' v → Keep κ κ' → gT κ' (tM 40) = 0 ∧ YS w Qv (kc + 15) (ns + 576) 136 L (v.toList ++ st) κ') : YS w Qv kc ns 133 L (a8 :: a7 :: a6 :: a5 :: a4 :: a3 :: a2 :: a1 :: st) κ := by
  intro θ H hN hX hL hS
  exact qL_law_133 (hst_rn θ hst) hcl hsl (hc θ H hN hok) (ys_k hX k hL (okKS_tl (okKS_tl (okKS_tl (okKS_tl (okKS_tl (okKS_tl (okKS_tl (okKS_tl hS)))))))))
theorem sL_law_136 {w : W0} {Qv : Option Value → Prop} {kc ns : Nat} {L : List (Option Value)} {st : List Value} {κ : AH} (k : YS w Qv kc ns 138 L (.int (-2000000) :: st) κ) : YS w Qv kc ns 136 L (st) κ := by
  intro θ H hN hX hL hS
  exact qL_law_136 (k θ H hN hX hL (okKS_cons okS_i hS))
theorem sL_law_149 {w : W0} {Qv : Option Value → Prop} {kc ns : Nat} {L : List (Option Value)} {st : List Value} {κ : AH} {a1 a2 a3 a4 a5 a6 a7 a8 : Value} {Q' : Option Value → AH → Prop} (hst : Nat.ble (st.map fun v => v.category).sum 8 = true) (hcl : Nat.ble (kc + 15) 600074 = true) (hsl : Nat.ble (ns + 576) 7301550 = true) (hok : okK κ [a1, a2, a3, a4, a5, a6, a7, a8]) (hc : CYH w yL_does mL_does [a1, a2, a3, a4, a5, a6, a7, a8] κ Q') (k : ∀ v κ', Q' v κ' → okO κ' v → Keep κ κ' → gT κ' (tM 40) = 0 ∧ YS w Qv (kc + 15) (ns + 576) 152 L (v.toList ++ st) κ') : YS w Qv kc ns 149 L (a8 :: a7 :: a6 :: a5 :: a4 :: a3 :: a2 :: a1 :: st) κ := by
  intro θ H hN hX hL hS
  exact qL_law_149 (hst_rn θ hst) hcl hsl (hc θ H hN hok) (ys_k hX k hL (okKS_tl (okKS_tl (okKS_tl (okKS_tl (okKS_tl (okKS_tl (okKS_tl (okKS_tl hS)))))))))
theorem sL_law_152 {w : W0} {Qv : Option Value → Prop} {kc ns : Nat} {L : List (Option Value)} {st : List Value} {κ : AH} (k : YS w Qv kc ns 154 L (.int (-3000000) :: st) κ) : YS w Qv kc ns 152 L (st) κ := by
  intro θ H hN hX hL hS
  exact qL_law_152 (k θ H hN hX hL (okKS_cons okS_i hS))
theorem sL_law_165 {w : W0} {Qv : Option Value → Prop} {kc ns : Nat} {L : List (Option Value)} {st : List Value} {κ : AH} {a1 a2 a3 a4 a5 a6 a7 a8 : Value} {Q' : Option Value → AH → Prop} (hst : Nat.ble (st.map fun v => v.category).sum 8 = true) (hcl : Nat.ble (kc + 15) 600074 = true) (hsl : Nat.ble (ns + 576) 7301550 = true) (hok : okK κ [a1, a2, a3, a4, a5, a6, a7, a8]) (hc : CYH w yL_does mL_does [a1, a2, a3, a4, a5, a6, a7, a8] κ Q') (k : ∀ v κ', Q' v κ' → okO κ' v → Keep κ κ' → gT κ' (tM 40) = 0 ∧ YS w Qv (kc + 15) (ns + 576) 168 L (v.toList ++ st) κ') : YS w Qv kc ns 165 L (a8 :: a7 :: a6 :: a5 :: a4 :: a3 :: a2 :: a1 :: st) κ := by
  intro θ H hN hX hL hS
  exact qL_law_165 (hst_rn θ hst) hcl hsl (hc θ H hN hok) (ys_k hX k hL (okKS_tl (okKS_tl (okKS_tl (okKS_tl (okKS_tl (okKS_tl (okKS_tl (okKS_tl hS)))))))))
theorem sL_law_168 {w : W0} {Qv : Option Value → Prop} {kc ns : Nat} {L : List (Option Value)} {st : List Value} {κ : AH} (k : YS w Qv kc ns 170 L (.int (-3000000) :: st) κ) : YS w Qv kc ns 168 L (st) κ := by
  intro θ H hN hX hL hS
  exact qL_law_168 (k θ H hN hX hL (okKS_cons okS_i hS))
theorem sL_law_184 {w : W0} {Qv : Option Value → Prop} {kc ns : Nat} {L : List (Option Value)} {st : List Value} {κ : AH} {a1 a2 a3 a4 a5 a6 a7 a8 : Value} {Q' : Option Value → AH → Prop} (hst : Nat.ble (st.map fun v => v.category).sum 8 = true) (hcl : Nat.ble (kc + 15) 600074 = true) (hsl : Nat.ble (ns + 576) 7301550 = true) (hok : okK κ [a1, a2, a3, a4, a5, a6, a7, a8]) (hc : CYH w yL_does mL_does [a1, a2, a3, a4, a5, a6, a7, a8] κ Q') (k : ∀ v κ', Q' v κ' → okO κ' v → Keep κ κ' → gT κ' (tM 40) = 0 ∧ YS w Qv (kc + 15) (ns + 576) 187 L (v.toList ++ st) κ') : YS w Qv kc ns 184 L (a8 :: a7 :: a6 :: a5 :: a4 :: a3 :: a2 :: a1 :: st) κ := by
  intro θ H hN hX hL hS
  exact qL_law_184 (hst_rn θ hst) hcl hsl (hc θ H hN hok) (ys_k hX k hL (okKS_tl (okKS_tl (okKS_tl (okKS_tl (okKS_tl (okKS_tl (okKS_tl (okKS_tl hS)))))))))
theorem sL_law_187 {w : W0} {Qv : Option Value → Prop} {kc ns : Nat} {L : List (Option Value)} {st : List Value} {κ : AH} (k : YS w Qv kc ns 189 L (.int (-2000000) :: st) κ) : YS w Qv kc ns 187 L (st) κ := by
  intro θ H hN hX hL hS
  exact qL_law_187 (k θ H hN hX hL (okKS_cons okS_i hS))
theorem sL_law_201 {w : W0} {Qv : Option Value → Prop} {kc ns : Nat} {L : List (Option Value)} {st : List Value} {κ : AH} {a1 a2 a3 a4 a5 a6 a7 a8 : Value} {Q' : Option Value → AH → Prop} (hst : Nat.ble (st.map fun v => v.category).sum 8 = true) (hcl : Nat.ble (kc + 15) 600074 = true) (hsl : Nat.ble (ns + 576) 7301550 = true) (hok : okK κ [a1, a2, a3, a4, a5, a6, a7, a8]) (hc : CYH w yL_does mL_does [a1, a2, a3, a4, a5, a6, a7, a8] κ Q') (k : ∀ v κ', Q' v κ' → okO κ' v → Keep κ κ' → gT κ' (tM 40) = 0 ∧ YS w Qv (kc + 15) (ns + 576) 204 L (v.toList ++ st) κ') : YS w Qv kc ns 201 L (a8 :: a7 :: a6 :: a5 :: a4 :: a3 :: a2 :: a1 :: st) κ := by
  intro θ H hN hX hL hS
  exact qL_law_201 (hst_rn θ hst) hcl hsl (hc θ H hN hok) (ys_k hX k hL (okKS_tl (okKS_tl (okKS_tl (okKS_tl (okKS_tl (okKS_tl (okKS_tl (okKS_tl hS)))))))))
theorem sL_law_204 {w : W0} {Qv : Option Value → Prop} {kc ns : Nat} {L : List (Option Value)} {st : List Value} {κ : AH} (k : YS w Qv kc ns 206 L (.int (-1000000) :: st) κ) : YS w Qv kc ns 204 L (st) κ := by
  intro θ H hN hX hL hS
  exact qL_law_204 (k θ H hN hX hL (okKS_cons okS_i hS))
theorem sL_law_220 {w : W0} {Qv : Option Value → Prop} {kc ns : Nat} {L : List (Option Value)} {st : List Value} {κ : AH} {a1 a2 a3 a4 a5 a6 a7 a8 : Value} {Q' : Option Value → AH → Prop} (hst : Nat.ble (st.map fun v => v.category).sum 8 = true) (hcl : Nat.ble (kc + 15) 600074 = true) (hsl : Nat.ble (ns + 576) 7301550 = true) (hok : okK κ [a1, a2, a3, a4, a5, a6, a7, a8]) (hc : CYH w yL_does mL_does [a1, a2, a3, a4, a5, a6, a7, a8] κ Q') (k : ∀ v κ', Q' v κ' → okO κ' v → Keep κ κ' → gT κ' (tM 40) = 0 ∧ YS w Qv (kc + 15) (ns + 576) 223 L (v.toList ++ st) κ') : YS w Qv kc ns 220 L (a8 :: a7 :: a6 :: a5 :: a4 :: a3 :: a2 :: a1 :: st) κ := by
  intro θ H hN hX hL hS
  exact qL_law_220 (hst_rn θ hst) hcl hsl (hc θ H hN hok) (ys_k hX k hL (okKS_tl (okKS_tl (okKS_tl (okKS_tl (okKS_tl (okKS_tl (okKS_tl (okKS_tl hS)))))))))
theorem sL_law_223 {w : W0} {Qv : Option Value → Prop} {kc ns : Nat} {L : List (Option Value)} {st : List Value} {κ : AH} (k : YS w Qv kc ns 225 L (.int (-2000000) :: st) κ) : YS w Qv kc ns 223 L (st) κ := by
  intro θ H hN hX hL hS
  exact qL_law_223 (k θ H hN hX hL (okKS_cons okS_i hS))
theorem sL_law_238 {w : W0} {Qv : Option Value → Prop} {kc ns : Nat} {L : List (Option Value)} {st : List Value} {κ : AH} {a1 a2 a3 a4 a5 a6 a7 a8 : Value} {Q' : Option Value → AH → Prop} (hst : Nat.ble (st.map fun v => v.category).sum 8 = true) (hcl : Nat.ble (kc + 15) 600074 = true) (hsl : Nat.ble (ns + 576) 7301550 = true) (hok : okK κ [a1, a2, a3, a4, a5, a6, a7, a8]) (hc : CYH w yL_does mL_does [a1, a2, a3, a4, a5, a6, a7, a8] κ Q') (k : ∀ v κ', Q' v κ' → okO κ' v → Keep κ κ' → gT κ' (tM 40) = 0 ∧ YS w Qv (kc + 15) (ns + 576) 241 L (v.toList ++ st) κ') : YS w Qv kc ns 238 L (a8 :: a7 :: a6 :: a5 :: a4 :: a3 :: a2 :: a1 :: st) κ := by
  intro θ H hN hX hL hS
  exact qL_law_238 (hst_rn θ hst) hcl hsl (hc θ H hN hok) (ys_k hX k hL (okKS_tl (okKS_tl (okKS_tl (okKS_tl (okKS_tl (okKS_tl (okKS_tl (okKS_tl hS)))))))))
theorem sL_law_241 {w : W0} {Qv : Option Value → Prop} {kc ns : Nat} {L : List (Option Value)} {st : List Value} {κ : AH} (k : YS w Qv kc ns 243 L (.int (-3000000) :: st) κ) : YS w Qv kc ns 241 L (st) κ := by
  intro θ H hN hX hL hS
  exact qL_law_241 (k θ H hN hX hL (okKS_cons okS_i hS))
theorem sL_law_255 {w : W0} {Qv : Option Value → Prop} {kc ns : Nat} {L : List (Option Value)} {st : List Value} {κ : AH} {a1 a2 a3 a4 a5 a6 a7 a8 : Value} {Q' : Option Value → AH → Prop} (hst : Nat.ble (st.map fun v => v.category).sum 8 = true) (hcl : Nat.ble (kc + 15) 600074 = true) (hsl : Nat.ble (ns + 576) 7301550 = true) (hok : okK κ [a1, a2, a3, a4, a5, a6, a7, a8]) (hc : CYH w yL_does mL_does [a1, a2, a3, a4, a5, a6, a7, a8] κ Q') (k : ∀ v κ', Q' v κ' → okO κ' v → Keep κ κ' → gT κ' (tM 40) = 0 ∧ YS w Qv (kc + 15) (ns + 576) 258 L (v.toList ++ st) κ') : YS w Qv kc ns 255 L (a8 :: a7 :: a6 :: a5 :: a4 :: a3 :: a2 :: a1 :: st) κ := by
  intro θ H hN hX hL hS
  exact qL_law_255 (hst_rn θ hst) hcl hsl (hc θ H hN hok) (ys_k hX k hL (okKS_tl (okKS_tl (okKS_tl (okKS_tl (okKS_tl (okKS_tl (okKS_tl (okKS_tl hS)))))))))
theorem sL_law_258 {w : W0} {Qv : Option Value → Prop} {kc ns : Nat} {L : List (Option Value)} {st : List Value} {κ : AH} (k : YS w Qv kc ns 260 L (.int (-2000000) :: st) κ) : YS w Qv kc ns 258 L (st) κ := by
  intro θ H hN hX hL hS
  exact qL_law_258 (k θ H hN hX hL (okKS_cons okS_i hS))
theorem sL_law_272 {w : W0} {Qv : Option Value → Prop} {kc ns : Nat} {L : List (Option Value)} {st : List Value} {κ : AH} {a1 a2 a3 a4 a5 a6 a7 a8 : Value} {Q' : Option Value → AH → Prop} (hst : Nat.ble (st.map fun v => v.category).sum 8 = true) (hcl : Nat.ble (kc + 15) 600074 = true) (hsl : Nat.ble (ns + 576) 7301550 = true) (hok : okK κ [a1, a2, a3, a4, a5, a6, a7, a8]) (hc : CYH w yL_does mL_does [a1, a2, a3, a4, a5, a6, a7, a8] κ Q') (k : ∀ v κ', Q' v κ' → okO κ' v → Keep κ κ' → gT κ' (tM 40) = 0 ∧ YS w Qv (kc + 15) (ns + 576) 275 L (v.toList ++ st) κ') : YS w Qv kc ns 272 L (a8 :: a7 :: a6 :: a5 :: a4 :: a3 :: a2 :: a1 :: st) κ := by
  intro θ H hN hX hL hS
  exact qL_law_272 (hst_rn θ hst) hcl hsl (hc θ H hN hok) (ys_k hX k hL (okKS_tl (okKS_tl (okKS_tl (okKS_tl (okKS_tl (okKS_tl (okKS_tl (okKS_tl hS)))))))))
theorem sL_law_275 {w : W0} {Qv : Option Value → Prop} {kc ns : Nat} {L : List (Option Value)} {st : List Value} {κ : AH} (k : YS w Qv kc ns 277 L (.int (-3000000) :: st) κ) : YS w Qv kc ns 275 L (st) κ := by
  intro θ H hN hX hL hS
  exact qL_law_275 (k θ H hN hX hL (okKS_cons okS_i hS))
theorem sL_law_281 {w : W0} {Qv : Option Value → Prop} {kc ns : Nat} {L : List (Option Value)} {st : List Value} {κ : AH} {b : Nat} {Q' : Option Value → AH → Prop} (hst : Nat.ble (st.map fun v => v.category).sum 8 = true) (hcl : Nat.ble (kc + 0) 600074 = true) (hsl : Nat.ble (ns + 0) 7301550 = true) (ht : gT κ b = 9) (hok : okK κ (.ref b :: [])) (hc : CY w yX8_centre mX8_centre (.ref b :: []) κ Q') (k : ∀ v κ', Q' v κ' → okO κ' v → Keep κ κ' → gT κ' (tM 40) = 0 ∧ YS w Qv kc ns 284 L (v.toList ++ st) κ') : YS w Qv kc ns 281 L (.ref b :: st) κ := by
  intro θ H hN hX hL hS
  exact qL_law_281 (hst_rn θ hst) hcl hsl ((hN.1 b (by rw [ht]; decide)).1.trans ht) (hc θ H hN hok) (ys_k hX k hL (okKS_tl hS))
theorem sL_law_288 {w : W0} {Qv : Option Value → Prop} {kc ns : Nat} {L : List (Option Value)} {st : List Value} {κ : AH} {b : Nat} {Q' : Option Value → AH → Prop} (hst : Nat.ble (st.map fun v => v.category).sum 8 = true) (hcl : Nat.ble (kc + 0) 600074 = true) (hsl : Nat.ble (ns + 0) 7301550 = true) (ht : gT κ b = 9) (hok : okK κ (.ref b :: [])) (hc : CY w yX8_firstHour mX8_firstHour (.ref b :: []) κ Q') (k : ∀ v κ', Q' v κ' → okO κ' v → Keep κ κ' → gT κ' (tM 40) = 0 ∧ YS w Qv kc ns 291 L (v.toList ++ st) κ') : YS w Qv kc ns 288 L (.ref b :: st) κ := by
  intro θ H hN hX hL hS
  exact qL_law_288 (hst_rn θ hst) hcl hsl ((hN.1 b (by rw [ht]; decide)).1.trans ht) (hc θ H hN hok) (ys_k hX k hL (okKS_tl hS))
theorem sL_law_347 {w : W0} {Qv : Option Value → Prop} {kc ns : Nat} {L : List (Option Value)} {st : List Value} {κ : AH} {j m : Nat} (hj : j < 2 ^ 31) (hm : 0 < m) (hm2 : m < 2 ^ 31) (hw : w.lX < 2 ^ 31) (hst : Nat.ble (st.map fun v => v.category).sum 8 = true) (hcl : Nat.ble (kc + 0) 600074 = true) (hsl : Nat.ble (ns + 0) 7301550 = true) (k : ∀ r, r < m → YS w Qv kc ns 350 L (.int (nI r) :: st) κ) : YS w Qv kc ns 347 L (.int (nI m) :: .int (nI j) :: .ref (tM 40) :: st) κ := by
  intro θ H hN hX hL hS
  have e : (Value.int (nI m) :: Value.int (nI j) :: Value.ref (tM 40) :: st).map (rnV θ) = Value.int (nI m) :: Value.int (nI j) :: Value.ref w.aX :: st.map (rnV θ) := by rw [← hX]; rfl
  rw [e]
  exact qL_law_347 (hst_rn θ hst) hcl hsl (c_L_part hj hm hm2 hw) (fun v h' z => by
    obtain ⟨rfl, r, hr, rfl⟩ := z
    exact k r hr θ _ hN hX hL (okKS_cons okS_i (okKS_tl (okKS_tl (okKS_tl hS)))))
theorem sL_law_359 {w : W0} {Qv : Option Value → Prop} {kc ns : Nat} {L : List (Option Value)} {st : List Value} {κ : AH} (k : YS w Qv kc ns 361 L (.int (60000) :: st) κ) : YS w Qv kc ns 359 L (st) κ := by
  intro θ H hN hX hL hS
  exact qL_law_359 (k θ H hN hX hL (okKS_cons okS_i hS))
theorem sL_law_361 {w : W0} {Qv : Option Value → Prop} {kc ns : Nat} {L : List (Option Value)} {st : List Value} {κ : AH} {j m : Nat} (hj : j < 2 ^ 31) (hm : 0 < m) (hm2 : m < 2 ^ 31) (hw : w.lX < 2 ^ 31) (hst : Nat.ble (st.map fun v => v.category).sum 8 = true) (hcl : Nat.ble (kc + 0) 600074 = true) (hsl : Nat.ble (ns + 0) 7301550 = true) (k : ∀ r, r < m → YS w Qv kc ns 364 L (.int (nI r) :: st) κ) : YS w Qv kc ns 361 L (.int (nI m) :: .int (nI j) :: .ref (tM 40) :: st) κ := by
  intro θ H hN hX hL hS
  have e : (Value.int (nI m) :: Value.int (nI j) :: Value.ref (tM 40) :: st).map (rnV θ) = Value.int (nI m) :: Value.int (nI j) :: Value.ref w.aX :: st.map (rnV θ) := by rw [← hX]; rfl
  rw [e]
  exact qL_law_361 (hst_rn θ hst) hcl hsl (c_L_part hj hm hm2 hw) (fun v h' z => by
    obtain ⟨rfl, r, hr, rfl⟩ := z
    exact k r hr θ _ hN hX hL (okKS_cons okS_i (okKS_tl (okKS_tl (okKS_tl hS)))))
theorem sL_law_373 {w : W0} {Qv : Option Value → Prop} {kc ns : Nat} {L : List (Option Value)} {st : List Value} {κ : AH} (k : YS w Qv kc ns 375 L (.int (60000) :: st) κ) : YS w Qv kc ns 373 L (st) κ := by
  intro θ H hN hX hL hS
  exact qL_law_373 (k θ H hN hX hL (okKS_cons okS_i hS))
theorem sL_law_375 {w : W0} {Qv : Option Value → Prop} {kc ns : Nat} {L : List (Option Value)} {st : List Value} {κ : AH} {j m : Nat} (hj : j < 2 ^ 31) (hm : 0 < m) (hm2 : m < 2 ^ 31) (hw : w.lX < 2 ^ 31) (hst : Nat.ble (st.map fun v => v.category).sum 8 = true) (hcl : Nat.ble (kc + 0) 600074 = true) (hsl : Nat.ble (ns + 0) 7301550 = true) (k : ∀ r, r < m → YS w Qv kc ns 378 L (.int (nI r) :: st) κ) : YS w Qv kc ns 375 L (.int (nI m) :: .int (nI j) :: .ref (tM 40) :: st) κ := by
  intro θ H hN hX hL hS
  have e : (Value.int (nI m) :: Value.int (nI j) :: Value.ref (tM 40) :: st).map (rnV θ) = Value.int (nI m) :: Value.int (nI j) :: Value.ref w.aX :: st.map (rnV θ) := by rw [← hX]; rfl
  rw [e]
  exact qL_law_375 (hst_rn θ hst) hcl hsl (c_L_part hj hm hm2 hw) (fun v h' z => by
    obtain ⟨rfl, r, hr, rfl⟩ := z
    exact k r hr θ _ hN hX hL (okKS_cons okS_i (okKS_tl (okKS_tl (okKS_tl hS)))))
theorem sL_law_410 {w : W0} {Qv : Option Value → Prop} {kc ns : Nat} {L : List (Option Value)} {st : List Value} {κ : AH} {a1 a2 a3 a4 a5 a6 a7 a8 a9 a10 a11 a12 a13 a14 : Value} {Q' : Option Value → AH → Prop} (hst : Nat.ble (st.map fun v => v.category).sum 8 = true) (hcl : Nat.ble (kc + 60) 600074 = true) (hsl : Nat.ble (ns + 2304) 7301550 = true) (hok : okK κ [a1, a2, a3, a4, a5, a6, a7, a8, a9, a10, a11, a12, a13, a14]) (hc : CY w yL_isBlock mL_isBlock [a1, a2, a3, a4, a5, a6, a7, a8, a9, a10, a11, a12, a13, a14] κ Q') (k : ∀ v κ', Q' v κ' → okO κ' v → Keep κ κ' → gT κ' (tM 40) = 0 ∧ YS w Qv (kc + 60) (ns + 2304) 413 L (v.toList ++ st) κ') : YS w Qv kc ns 410 L (a14 :: a13 :: a12 :: a11 :: a10 :: a9 :: a8 :: a7 :: a6 :: a5 :: a4 :: a3 :: a2 :: a1 :: st) κ := by
  intro θ H hN hX hL hS
  exact qL_law_410 (hst_rn θ hst) hcl hsl (hc θ H hN hok) (ys_k hX k hL (okKS_tl (okKS_tl (okKS_tl (okKS_tl (okKS_tl (okKS_tl (okKS_tl (okKS_tl (okKS_tl (okKS_tl (okKS_tl (okKS_tl (okKS_tl (okKS_tl hS)))))))))))))))
theorem sL_law_449 {w : W0} {Qv : Option Value → Prop} {kc ns : Nat} {L : List (Option Value)} {st : List Value} {κ : AH} {a1 a2 a3 a4 a5 a6 a7 a8 a9 a10 a11 a12 a13 a14 : Value} {Q' : Option Value → AH → Prop} (hst : Nat.ble (st.map fun v => v.category).sum 8 = true) (hcl : Nat.ble (kc + 60) 600074 = true) (hsl : Nat.ble (ns + 2304) 7301550 = true) (hok : okK κ [a1, a2, a3, a4, a5, a6, a7, a8, a9, a10, a11, a12, a13, a14]) (hc : CY w yL_isBlock mL_isBlock [a1, a2, a3, a4, a5, a6, a7, a8, a9, a10, a11, a12, a13, a14] κ Q') (k : ∀ v κ', Q' v κ' → okO κ' v → Keep κ κ' → gT κ' (tM 40) = 0 ∧ YS w Qv (kc + 60) (ns + 2304) 452 L (v.toList ++ st) κ') : YS w Qv kc ns 449 L (a14 :: a13 :: a12 :: a11 :: a10 :: a9 :: a8 :: a7 :: a6 :: a5 :: a4 :: a3 :: a2 :: a1 :: st) κ := by
  intro θ H hN hX hL hS
  exact qL_law_449 (hst_rn θ hst) hcl hsl (hc θ H hN hok) (ys_k hX k hL (okKS_tl (okKS_tl (okKS_tl (okKS_tl (okKS_tl (okKS_tl (okKS_tl (okKS_tl (okKS_tl (okKS_tl (okKS_tl (okKS_tl (okKS_tl (okKS_tl hS)))))))))))))))
theorem sL_law_488 {w : W0} {Qv : Option Value → Prop} {kc ns : Nat} {L : List (Option Value)} {st : List Value} {κ : AH} {a1 a2 a3 a4 a5 a6 a7 a8 a9 a10 a11 a12 a13 a14 : Value} {Q' : Option Value → AH → Prop} (hst : Nat.ble (st.map fun v => v.category).sum 8 = true) (hcl : Nat.ble (kc + 60) 600074 = true) (hsl : Nat.ble (ns + 2304) 7301550 = true) (hok : okK κ [a1, a2, a3, a4, a5, a6, a7, a8, a9, a10, a11, a12, a13, a14]) (hc : CY w yL_isBlock mL_isBlock [a1, a2, a3, a4, a5, a6, a7, a8, a9, a10, a11, a12, a13, a14] κ Q') (k : ∀ v κ', Q' v κ' → okO κ' v → Keep κ κ' → gT κ' (tM 40) = 0 ∧ YS w Qv (kc + 60) (ns + 2304) 491 L (v.toList ++ st) κ') : YS w Qv kc ns 488 L (a14 :: a13 :: a12 :: a11 :: a10 :: a9 :: a8 :: a7 :: a6 :: a5 :: a4 :: a3 :: a2 :: a1 :: st) κ := by
  intro θ H hN hX hL hS
  exact qL_law_488 (hst_rn θ hst) hcl hsl (hc θ H hN hok) (ys_k hX k hL (okKS_tl (okKS_tl (okKS_tl (okKS_tl (okKS_tl (okKS_tl (okKS_tl (okKS_tl (okKS_tl (okKS_tl (okKS_tl (okKS_tl (okKS_tl (okKS_tl hS)))))))))))))))
theorem sL_law_527 {w : W0} {Qv : Option Value → Prop} {kc ns : Nat} {L : List (Option Value)} {st : List Value} {κ : AH} {a1 a2 a3 a4 a5 a6 a7 a8 a9 a10 a11 a12 a13 a14 : Value} {Q' : Option Value → AH → Prop} (hst : Nat.ble (st.map fun v => v.category).sum 8 = true) (hcl : Nat.ble (kc + 60) 600074 = true) (hsl : Nat.ble (ns + 2304) 7301550 = true) (hok : okK κ [a1, a2, a3, a4, a5, a6, a7, a8, a9, a10, a11, a12, a13, a14]) (hc : CY w yL_isBlock mL_isBlock [a1, a2, a3, a4, a5, a6, a7, a8, a9, a10, a11, a12, a13, a14] κ Q') (k : ∀ v κ', Q' v κ' → okO κ' v → Keep κ κ' → gT κ' (tM 40) = 0 ∧ YS w Qv (kc + 60) (ns + 2304) 530 L (v.toList ++ st) κ') : YS w Qv kc ns 527 L (a14 :: a13 :: a12 :: a11 :: a10 :: a9 :: a8 :: a7 :: a6 :: a5 :: a4 :: a3 :: a2 :: a1 :: st) κ := by
  intro θ H hN hX hL hS
  exact qL_law_527 (hst_rn θ hst) hcl hsl (hc θ H hN hok) (ys_k hX k hL (okKS_tl (okKS_tl (okKS_tl (okKS_tl (okKS_tl (okKS_tl (okKS_tl (okKS_tl (okKS_tl (okKS_tl (okKS_tl (okKS_tl (okKS_tl (okKS_tl hS)))))))))))))))
theorem sL_law_568 {w : W0} {Qv : Option Value → Prop} {kc ns : Nat} {L : List (Option Value)} {st : List Value} {κ : AH} {a1 a2 a3 a4 a5 a6 a7 a8 a9 : Value} {Q' : Option Value → AH → Prop} (hst : Nat.ble (st.map fun v => v.category).sum 8 = true) (hcl : Nat.ble (kc + 30) 600074 = true) (hsl : Nat.ble (ns + 1152) 7301550 = true) (hok : okK κ [a1, a2, a3, a4, a5, a6, a7, a8, a9]) (hc : CY w yL_isWeld mL_isWeld [a1, a2, a3, a4, a5, a6, a7, a8, a9] κ Q') (k : ∀ v κ', Q' v κ' → okO κ' v → Keep κ κ' → gT κ' (tM 40) = 0 ∧ YS w Qv (kc + 30) (ns + 1152) 571 L (v.toList ++ st) κ') : YS w Qv kc ns 568 L (a9 :: a8 :: a7 :: a6 :: a5 :: a4 :: a3 :: a2 :: a1 :: st) κ := by
  intro θ H hN hX hL hS
  exact qL_law_568 (hst_rn θ hst) hcl hsl (hc θ H hN hok) (ys_k hX k hL (okKS_tl (okKS_tl (okKS_tl (okKS_tl (okKS_tl (okKS_tl (okKS_tl (okKS_tl (okKS_tl hS))))))))))
theorem sL_law_617 {w : W0} {Qv : Option Value → Prop} {kc ns : Nat} {L : List (Option Value)} {st : List Value} {κ : AH} {a1 a2 a3 a4 a5 a6 a7 : Value} {Q' : Option Value → AH → Prop} (hst : Nat.ble (st.map fun v => v.category).sum 8 = true) (hcl : Nat.ble (kc + 45) 600074 = true) (hsl : Nat.ble (ns + 1728) 7301550 = true) (hok : okK κ [a1, a2, a3, a4, a5, a6, a7]) (hc : CY w yL_isRoom mL_isRoom [a1, a2, a3, a4, a5, a6, a7] κ Q') (k : ∀ v κ', Q' v κ' → okO κ' v → Keep κ κ' → gT κ' (tM 40) = 0 ∧ YS w Qv (kc + 45) (ns + 1728) 620 L (v.toList ++ st) κ') : YS w Qv kc ns 617 L (a7 :: a6 :: a5 :: a4 :: a3 :: a2 :: a1 :: st) κ := by
  intro θ H hN hX hL hS
  exact qL_law_617 (hst_rn θ hst) hcl hsl (hc θ H hN hok) (ys_k hX k hL (okKS_tl (okKS_tl (okKS_tl (okKS_tl (okKS_tl (okKS_tl (okKS_tl hS))))))))
theorem sL_law_653 {w : W0} {Qv : Option Value → Prop} {kc ns : Nat} {L : List (Option Value)} {st : List Value} {κ : AH} {a1 a2 a3 a4 a5 a6 : Value} {Q' : Option Value → AH → Prop} (hst : Nat.ble (st.map fun v => v.category).sum 8 = true) (hcl : Nat.ble (kc + 1600) 600074 = true) (hsl : Nat.ble (ns + 26000) 7301550 = true) (hok : okK κ [a1, a2, a3, a4, a5, a6]) (hc : CY w yL_isPipe mL_isPipe [a1, a2, a3, a4, a5, a6] κ Q') (k : ∀ v κ', Q' v κ' → okO κ' v → Keep κ κ' → gT κ' (tM 40) = 0 ∧ YS w Qv (kc + 1600) (ns + 26000) 656 L (v.toList ++ st) κ') : YS w Qv kc ns 653 L (a6 :: a5 :: a4 :: a3 :: a2 :: a1 :: st) κ := by
  intro θ H hN hX hL hS
  exact qL_law_653 (hst_rn θ hst) hcl hsl (hc θ H hN hok) (ys_k hX k hL (okKS_tl (okKS_tl (okKS_tl (okKS_tl (okKS_tl (okKS_tl hS)))))))
theorem sL_law_681 {w : W0} {Qv : Option Value → Prop} {kc ns : Nat} {L : List (Option Value)} {st : List Value} {κ : AH} {a1 a2 a3 a4 a5 : Value} {Q' : Option Value → AH → Prop} (hst : Nat.ble (st.map fun v => v.category).sum 8 = true) (hcl : Nat.ble (kc + 45) 600074 = true) (hsl : Nat.ble (ns + 1728) 7301550 = true) (hok : okK κ [a1, a2, a3, a4, a5]) (hc : CY w yL_isTold mL_isTold [a1, a2, a3, a4, a5] κ Q') (k : ∀ v κ', Q' v κ' → okO κ' v → Keep κ κ' → gT κ' (tM 40) = 0 ∧ YS w Qv (kc + 45) (ns + 1728) 684 L (v.toList ++ st) κ') : YS w Qv kc ns 681 L (a5 :: a4 :: a3 :: a2 :: a1 :: st) κ := by
  intro θ H hN hX hL hS
  exact qL_law_681 (hst_rn θ hst) hcl hsl (hc θ H hN hok) (ys_k hX k hL (okKS_tl (okKS_tl (okKS_tl (okKS_tl (okKS_tl hS))))))
theorem sL_law_708 {w : W0} {Qv : Option Value → Prop} {kc ns : Nat} {L : List (Option Value)} {st : List Value} {κ : AH} {a1 a2 a3 a4 a5 a6 a7 a8 a9 a10 : Value} {Q' : Option Value → AH → Prop} (hst : Nat.ble (st.map fun v => v.category).sum 8 = true) (hcl : Nat.ble (kc + 2400) 600074 = true) (hsl : Nat.ble (ns + 16000) 7301550 = true) (hok : okK κ [a1, a2, a3, a4, a5, a6, a7, a8, a9, a10]) (hc : CY w yL_isSo mL_isSo [a1, a2, a3, a4, a5, a6, a7, a8, a9, a10] κ Q') (k : ∀ v κ', Q' v κ' → okO κ' v → Keep κ κ' → gT κ' (tM 40) = 0 ∧ YS w Qv (kc + 2400) (ns + 16000) 711 L (v.toList ++ st) κ') : YS w Qv kc ns 708 L (a10 :: a9 :: a8 :: a7 :: a6 :: a5 :: a4 :: a3 :: a2 :: a1 :: st) κ := by
  intro θ H hN hX hL hS
  exact qL_law_708 (hst_rn θ hst) hcl hsl (hc θ H hN hok) (ys_k hX k hL (okKS_tl (okKS_tl (okKS_tl (okKS_tl (okKS_tl (okKS_tl (okKS_tl (okKS_tl (okKS_tl (okKS_tl hS)))))))))))

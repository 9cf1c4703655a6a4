
/-! THE LAW'S isPipe: its head -/
theorem CSp_w {κ κb κ' : AH} {p : Nat} {l : LSt} {σ : MS} {nb nw np : Nat} {x y c : Int32} (h : CSp p κ κb σ nb nw np) (hre : RE (PL κb p l) κ' (upS (wSt σ x y) 34 c)) : ∃ κ1, κ' = PL κ1 p l ∧ CSp p κ κ1 (upS (wSt σ x y) 34 c) nb nw np := by
  obtain ⟨wb, hI⟩ := h.1
  have e : ∀ j, j ≠ 34 → (upS (wSt σ x y) 34 c).1 j = σ.1 j := fun j hj => by
    show (if j = 34 then c else (wSt σ x y).1 j) = _
    rw [if_neg hj, wSt_nm]
  exact CSp_next h hre ((e 8 (by decide)).trans hI.1.e8) ((e 18 (by decide)).trans hI.1.e18) ((e 30 (by decide)).trans hI.1.e30) hI.1.n30
theorem mx1 {n : Nat} (h : n < 99) : nI n - 1 = -1 ∨ ∃ F, F < 99 ∧ nI n - 1 = nI F := by
  cases n with
  | zero => exact Or.inl rfl
  | succ n => exact Or.inr ⟨n, by omega, nI_pred n⟩
theorem mx2 {x : Int32} {n : Nat} (hx : x = -1 ∨ ∃ F, F < 99 ∧ x = nI F) (h : n < 2) : x + nI n = -1 ∨ ∃ F, F < 199 ∧ x + nI n = nI F := by
  have : n = 0 ∨ n = 1 := by omega
  rcases hx with rfl | ⟨F, hF, rfl⟩
  · rcases this with rfl | rfl
    · exact Or.inl rfl
    · exact Or.inr ⟨0, by omega, rfl⟩
  · exact Or.inr ⟨F + n, by omega, nI_add F n⟩
set_option maxRecDepth 20000 in
theorem ip_118n {w : W0} {κ : AH} {p : Nat} {l : LSt} {θ0 : Nat → Nat} {o q : Nat} {κb : AH} {l1 : LSt} {σ : MS} {nb nw np : Nat} (hn : np < 10) (S : CSp p κ κb σ nb nw np) (C : Cp l1 σ nb nw np) (x y : Int32) (h : ¬ (isRm σ x ∧ isRm σ y)) : Y w mL_isPipe θ0 (PL κ p l) (fun v κ' => PQp κ p v κ') (fun _ _ => False) 1 36 118 [some (.ref (tS 4)), some (.ref (tM 7)), some (.ref (tM 8)), some (.ref (tM 9)), some (.int (nI o)), some (.int (nI q)), some (.ref (tM p)), some (.int x), some (.int y), none, none, none, none, none, none, none, none] [.int 0] (PL κb p l1) := by
  refine runL_go (κ := κb) (p := p) rkL_isPipe (fun p => Nat.beq p 220) 300 rfl ?_
  refine And.intro (fun c122 => ?_) (fun c122 => False.elim (by first | exact c122 (by decide) | exact absurd (by decide) c122 | exact absurd c122 (by decide)))
  refine And.intro (fun c135 => ?_) (fun c135 => False.elim (by first | exact c135 (by decide) | exact absurd (by decide) c135 | exact absurd c135 (by decide)))
  refine pL_isPipe_173 rfl rfl rfl (w_pipe (RI_PL S.1.choose_spec)) (fun v κ1 hq173 ho173 hk173 => ?_)
  obtain ⟨rfl, hre⟩ := hq173
  have em := mPip_n (k := 1) (show kPip σ x y = 1 by unfold kPip; exact if_neg h) (by decide)
  rw [em] at hre ⊢
  obtain ⟨κ1, rfl, S1⟩ := CSp_w S hre
  refine runL_ok rkL_isPipe (fun p => Nat.beq p 220) 300 _ _ _ _ _ _ ?_
  refine And.intro (fun c178 => False.elim (by first | exact c178 (by decide) | exact absurd (by decide) c178 | exact absurd c178 (by decide))) (fun c178 => ?_)
  refine pL_isPipe_181 ?_
  refine runL_ok rkL_isPipe (fun p => Nat.beq p 220) 300 _ _ _ _ _ _ ?_
  refine And.intro (fun c215 => ?_) (fun c215 => False.elim (by first | exact c215 rfl | exact absurd rfl c215 | exact absurd c215 rfl))
  exact ip_n (by omega) (by omega) (by omega) S1 (Cp_wSt C) _ _ _
set_option maxRecDepth 20000 in
theorem ip_e {w : W0} {κ : AH} {p : Nat} {l : LSt} {θ0 : Nat → Nat} {o q : Nat} {κb : AH} {l1 : LSt} {σ : MS} {nb nw np : Nat} (hn : np < 10) (S : CSp p κ κb σ nb nw np) (C : Cp l1 σ nb nw np) {F t : Nat} (hF : F < 36) (ht : t < 36) (ho : hOK σ) (hx : isRm σ (nI F)) (hy : isRm σ (nI t)) (hFt : nI F = nI t) : Y w mL_isPipe θ0 (PL κ p l) (fun v κ' => PQp κ p v κ') (fun _ _ => False) 1 36 118 [some (.ref (tS 4)), some (.ref (tM 7)), some (.ref (tM 8)), some (.ref (tM 9)), some (.int (nI o)), some (.int (nI q)), some (.ref (tM p)), some (.int (nI F)), some (.int (nI t)), none, none, none, none, none, none, none, none] [.int 1] (PL κb p l1) := by
  have hC : ∀ c, c < 36 → cH1 (l1 8 c) σ c := fun c hc => (C.2.1.2.2.1 c hc).2
  refine runL_go (κ := κb) (p := p) rkL_isPipe (fun p => Nat.beq p 220) 300 rfl ?_
  refine And.intro (fun c122 => False.elim (by first | exact c122 (by decide) | exact absurd (by decide) c122 | exact absurd c122 (by decide))) (fun c122 => ?_)
  refine pL_isPipe_130 rfl rfl rfl (c_L_ways S.2.1 S.2.2.1 hC ho ht) (fun v κ1 hq130 ho130 hk130 => ?_)
  obtain ⟨rfl, l2, rfl, he2, hfar⟩ := hq130
  have C2 : Cp l2 σ nb nw np := Cp_10 C he2
  refine runL_ok rkL_isPipe (fun p => Nat.beq p 220) 300 _ _ _ _ _ _ ?_
  refine And.intro (fun c135 => False.elim (by first | exact c135 (by decide) | exact absurd (by decide) c135 | exact absurd c135 (by decide))) (fun c135 => ?_)
  refine And.intro (fun c142 => ?_) (fun c142 => False.elim (by first | exact c142 hFt | exact absurd hFt c142 | exact absurd c142 hFt))
  refine pL_isPipe_173 rfl rfl rfl (w_pipe (RI_PL S.1.choose_spec)) (fun v κ1 hq173 ho173 hk173 => ?_)
  obtain ⟨rfl, hre⟩ := hq173
  have em := mPip_n (k := 2) (show kPip σ (nI F) (nI t) = 2 by unfold kPip; rw [if_pos ⟨hx, hy⟩, if_neg (fun z => z hFt)]) (by decide)
  rw [em] at hre ⊢
  obtain ⟨κ1, rfl, S1⟩ := CSp_w S hre
  refine runL_ok rkL_isPipe (fun p => Nat.beq p 220) 300 _ _ _ _ _ _ ?_
  refine And.intro (fun c178 => ?_) (fun c178 => False.elim (by first | exact c178 (by decide) | exact absurd (by decide) c178 | exact absurd c178 (by decide)))
  refine And.intro (fun c190 => False.elim (by first | exact c190 hFt | exact absurd hFt c190 | exact absurd c190 hFt)) (fun c190 => ?_)
  refine pL_isPipe_193 ?_
  refine runL_ok rkL_isPipe (fun p => Nat.beq p 220) 300 _ _ _ _ _ _ ?_
  refine And.intro (fun c215 => ?_) (fun c215 => False.elim (by first | exact c215 rfl | exact absurd rfl c215 | exact absurd c215 rfl))
  exact ip_n (by omega) (by omega) (by omega) S1 (Cp_wSt C2) _ _ _
set_option maxRecDepth 20000 in
theorem ip_w0 {w : W0} {κ : AH} {p : Nat} {l : LSt} {θ0 : Nat → Nat} {o q : Nat} {κb : AH} {l1 : LSt} {σ : MS} {nb nw np : Nat} (hn : np < 10) (S : CSp p κ κb σ nb nw np) (C : Cp l1 σ nb nw np) {F t : Nat} (hF : F < 36) (ht : t < 36) (ho : hOK σ) (hx : isRm σ (nI F)) (hy : isRm σ (nI t)) (hFt : ¬ nI F = nI t) (hd : ¬ dst σ (nI t) (nI F).toNatClampNeg < 36) : Y w mL_isPipe θ0 (PL κ p l) (fun v κ' => PQp κ p v κ') (fun _ _ => False) 1 36 118 [some (.ref (tS 4)), some (.ref (tM 7)), some (.ref (tM 8)), some (.ref (tM 9)), some (.int (nI o)), some (.int (nI q)), some (.ref (tM p)), some (.int (nI F)), some (.int (nI t)), none, none, none, none, none, none, none, none] [.int 1] (PL κb p l1) := by
  have hC : ∀ c, c < 36 → cH1 (l1 8 c) σ c := fun c hc => (C.2.1.2.2.1 c hc).2
  have eF : (nI F).toNatClampNeg = F := nI_clamp (by omega)
  refine runL_go (κ := κb) (p := p) rkL_isPipe (fun p => Nat.beq p 220) 300 rfl ?_
  refine And.intro (fun c122 => False.elim (by first | exact c122 (by decide) | exact absurd (by decide) c122 | exact absurd c122 (by decide))) (fun c122 => ?_)
  refine pL_isPipe_130 rfl rfl rfl (c_L_ways S.2.1 S.2.2.1 hC ho ht) (fun v κ1 hq130 ho130 hk130 => ?_)
  obtain ⟨rfl, l2, rfl, he2, hfar⟩ := hq130
  have C2 : Cp l2 σ nb nw np := Cp_10 C he2
  have hfF : l2 10 F = nI 99 := by rw [hfar F hF, if_neg (fun z => hd (by rw [eF]; exact z))]
  refine runL_ok rkL_isPipe (fun p => Nat.beq p 220) 300 _ _ _ _ _ _ ?_
  refine And.intro (fun c135 => False.elim (by first | exact c135 (by decide) | exact absurd (by decide) c135 | exact absurd c135 (by decide))) (fun c135 => ?_)
  refine And.intro (fun c142 => False.elim (by first | exact c142 hFt | exact absurd hFt c142 | exact absurd c142 hFt)) (fun c142 => ?_)
  refine ⟨10, F, S.2.2.1.ld (show F < 36 by omega) rfl, ?_⟩
  refine And.intro (fun c152 => ?_) (fun c152 => False.elim (by first | exact c152 (show (99 : Int32) ≤ l2 10 F by rw [hfF]; decide) | exact absurd (show (99 : Int32) ≤ l2 10 F by rw [hfF]; decide) c152 | exact absurd c152 (show (99 : Int32) ≤ l2 10 F by rw [hfF]; decide)))
  refine pL_isPipe_173 rfl rfl rfl (w_pipe (RI_PL S.1.choose_spec)) (fun v κ1 hq173 ho173 hk173 => ?_)
  obtain ⟨rfl, hre⟩ := hq173
  have em := mPip_n (k := 3) (show kPip σ (nI F) (nI t) = 3 by unfold kPip; rw [if_pos ⟨hx, hy⟩, if_pos hFt, if_neg (fun z => hd z.2)]) (by decide)
  rw [em] at hre ⊢
  obtain ⟨κ1, rfl, S1⟩ := CSp_w S hre
  refine runL_ok rkL_isPipe (fun p => Nat.beq p 220) 300 _ _ _ _ _ _ ?_
  refine And.intro (fun c178 => ?_) (fun c178 => False.elim (by first | exact c178 (by decide) | exact absurd (by decide) c178 | exact absurd c178 (by decide)))
  refine And.intro (fun c190 => ?_) (fun c190 => False.elim (by first | exact c190 hFt | exact absurd hFt c190 | exact absurd c190 hFt))
  refine And.intro (fun c200 => ?_) (fun c200 => False.elim (by first | exact c200 (by decide) | exact absurd (by decide) c200 | exact absurd c200 (by decide)))
  refine pL_isPipe_213 ?_
  refine runL_ok rkL_isPipe (fun p => Nat.beq p 220) 300 _ _ _ _ _ _ ?_
  refine And.intro (fun c215 => ?_) (fun c215 => False.elim (by first | exact c215 rfl | exact absurd rfl c215 | exact absurd c215 rfl))
  exact ip_n (by omega) (by omega) (by omega) S1 (Cp_wSt C2) _ _ _
set_option maxRecDepth 20000 in
theorem ip_w1 {w : W0} {κ : AH} {p : Nat} {l : LSt} {θ0 : Nat → Nat} {o q : Nat} {κb : AH} {l1 : LSt} {σ : MS} {nb nw np : Nat} (hn : np < 10) (S : CSp p κ κb σ nb nw np) (C : Cp l1 σ nb nw np) {F t : Nat} (hF : F < 36) (ht : t < 36) (ho : hOK σ) (hx : isRm σ (nI F)) (hy : isRm σ (nI t)) (hFt : ¬ nI F = nI t) (hd : dst σ (nI t) (nI F).toNatClampNeg < 36) : Y w mL_isPipe θ0 (PL κ p l) (fun v κ' => PQp κ p v κ') (fun _ _ => False) 1 36 118 [some (.ref (tS 4)), some (.ref (tM 7)), some (.ref (tM 8)), some (.ref (tM 9)), some (.int (nI o)), some (.int (nI q)), some (.ref (tM p)), some (.int (nI F)), some (.int (nI t)), none, none, none, none, none, none, none, none] [.int 1] (PL κb p l1) := by
  have hC : ∀ c, c < 36 → cH1 (l1 8 c) σ c := fun c hc => (C.2.1.2.2.1 c hc).2
  have eF : (nI F).toNatClampNeg = F := nI_clamp (by omega)
  have e8 : σ.1 8 = nI nb := S.1.choose_spec.1.e8
  have e18 : σ.1 18 = nI nw := S.1.choose_spec.1.e18
  have e30 : σ.1 30 = nI np := S.1.choose_spec.1.e30
  have E8 : (sPip σ (nI F) (nI t)).1 8 = nI nb := (sPip_num (by decide) (by decide)).trans e8
  have E18 : (sPip σ (nI F) (nI t)).1 18 = nI nw := (sPip_num (by decide) (by decide)).trans e18
  have E30 : (sPip σ (nI F) (nI t)).1 30 = nI (np + 1) := by rw [sPip_30, e30]; exact nI_1 np
  have h30 : ¬ σ.1 30 = 30 := fun z => by have := (nI_eq (a := np) (b := 30) (by omega) (by decide)).mp (e30.symm.trans z); omega
  refine runL_go (κ := κb) (p := p) rkL_isPipe (fun p => Nat.beq p 230) 300 rfl ?_
  refine And.intro (fun c122 => False.elim (by first | exact c122 (by decide) | exact absurd (by decide) c122 | exact absurd c122 (by decide))) (fun c122 => ?_)
  refine pL_isPipe_130 rfl rfl rfl (c_L_ways S.2.1 S.2.2.1 hC ho ht) (fun v κ1 hq130 ho130 hk130 => ?_)
  obtain ⟨rfl, l2, rfl, he2, hfar⟩ := hq130
  have C2 : Cp l2 σ nb nw np := Cp_10 C he2
  have hfF : l2 10 F = nI (dst σ (nI t) (nI F).toNatClampNeg) := by rw [hfar F hF, eF, if_pos (by rw [← eF]; exact hd)]
  refine runL_ok rkL_isPipe (fun p => Nat.beq p 230) 300 _ _ _ _ _ _ ?_
  refine And.intro (fun c135 => False.elim (by first | exact c135 (by decide) | exact absurd (by decide) c135 | exact absurd c135 (by decide))) (fun c135 => ?_)
  refine And.intro (fun c142 => False.elim (by first | exact c142 hFt | exact absurd hFt c142 | exact absurd c142 hFt)) (fun c142 => ?_)
  refine ⟨10, F, S.2.2.1.ld (show F < 36 by omega) rfl, ?_⟩
  refine And.intro (fun c152 => False.elim (by first | exact c152 (show ¬ (99 : Int32) ≤ l2 10 F by rw [hfF]; exact fun z => by have := (nI_leI (a := 99) (by decide) (by omega)).mp z; omega) | exact absurd (show ¬ (99 : Int32) ≤ l2 10 F by rw [hfF]; exact fun z => by have := (nI_leI (a := 99) (by decide) (by omega)).mp z; omega) c152 | exact absurd c152 (show ¬ (99 : Int32) ≤ l2 10 F by rw [hfF]; exact fun z => by have := (nI_leI (a := 99) (by decide) (by omega)).mp z; omega))) (fun c152 => ?_)
  refine pL_isPipe_173 rfl rfl rfl (w_pipe (RI_PL S.1.choose_spec)) (fun v κ1 hq173 ho173 hk173 => ?_)
  obtain ⟨rfl, hre⟩ := hq173
  have em := mPip_y (show kPip σ (nI F) (nI t) = 0 by unfold kPip; rw [if_pos ⟨hx, hy⟩, if_pos hFt, if_pos ⟨h30, hd⟩])
  rw [em] at hre
  have ev : dv (-3000000) (-2000000) (-1000000) (nI (dst σ (nI t) (nI F).toNatClampNeg + 1), sPip σ (nI F) (nI t)) = nI (dst σ (nI t) (nI F).toNatClampNeg + 1) := if_pos sPip_34
  rw [em, ev]
  obtain ⟨κ1, rfl, S1⟩ := CSp_next S hre E8 E18 E30 (by omega)
  refine runL_ok rkL_isPipe (fun p => Nat.beq p 230) 300 _ _ _ _ _ _ ?_
  refine And.intro (fun c178 => ?_) (fun c178 => False.elim (by first | exact c178 (by decide) | exact absurd (by decide) c178 | exact absurd c178 (by decide)))
  refine And.intro (fun c190 => ?_) (fun c190 => False.elim (by first | exact c190 hFt | exact absurd hFt c190 | exact absurd c190 hFt))
  refine And.intro (fun c200 => False.elim (by first | exact c200 (by decide) | exact absurd (by decide) c200 | exact absurd c200 (by decide))) (fun c200 => ?_)
  refine ⟨10, F, S1.2.2.1.ld (show F < 36 by omega) rfl, ?_⟩
  refine And.intro (fun c215 => ?_) (fun c215 => False.elim (by first | exact c215 (show nI (dst σ (nI t) (nI F).toNatClampNeg + 1) = l2 10 F + 1 by rw [hfF]; exact (nI_1 _).symm) | exact absurd (show nI (dst σ (nI t) (nI F).toNatClampNeg + 1) = l2 10 F + 1 by rw [hfF]; exact (nI_1 _).symm) c215 | exact absurd c215 (show nI (dst σ (nI t) (nI F).toNatClampNeg + 1) = l2 10 F + 1 by rw [hfF]; exact (nI_1 _).symm)))
  exact ip_230 hF ht ho e8 e18 e30 hn C2 hfar hd (dst σ (nI t) (nI F).toNatClampNeg + 1) 0 rfl _ _ (by omega) (by omega) κ1 l2 S1 (fun _ _ => rfl) (pR_0 C2.2.1.2.2.1) _ _ _ _ (fun _ => congrArg nI eF.symm)
set_option maxRecDepth 20000 in
theorem ip_41 {w : W0} {κ : AH} {p : Nat} {l : LSt} {θ0 : Nat → Nat} {o q : Nat} {κb : AH} {l1 : LSt} {σ : MS} {nb nw np : Nat} (hn : np < 10) (S : CSp p κ κb σ nb nw np) (C : Cp l1 σ nb nw np) (x v : Int32) (hx : x = -1 ∨ ∃ F, F < 99 ∧ x = nI F) (hv : v = -1 ∨ ∃ t, t < 199 ∧ v = nI t) : Y w mL_isPipe θ0 (PL κ p l) (fun v κ' => PQp κ p v κ') (fun _ _ => False) 1 36 41 [some (.ref (tS 4)), some (.ref (tM 7)), some (.ref (tM 8)), some (.ref (tM 9)), some (.int (nI o)), some (.int (nI q)), some (.ref (tM p)), some (.int x), none, none, none, none, none, none, none, none, none] [.int v] (PL κb p l1) := by
  have I : IV σ nb nw np := S.1.choose_spec.1
  have ho : hOK σ := I.hO
  have LT : ∀ c, c < 36 → (l1 7 c < 0 ↔ σ.2 25 c = -1) := fun c hc => rm_lt C I.n8 I.fx hc
  rcases hx with rfl | ⟨F, hF, rfl⟩
  · skip
    refine runL_go (κ := κb) (p := p) rkL_isPipe (fun p => Nat.beq p 118) 300 rfl ?_
    refine And.intro (fun c45 => ?_) (fun c45 => False.elim (by first | exact c45 (by decide) | exact absurd (by decide) c45 | exact absurd c45 (by decide)))
    exact ip_118n hn S C _ _ (fun z => absurd z.1.1.1 (by decide))
  · by_cases hF36 : 36 ≤ F
    · skip
      refine runL_go (κ := κb) (p := p) rkL_isPipe (fun p => Nat.beq p 118) 300 rfl ?_
      refine And.intro (fun c45 => False.elim (by first | exact c45 (nI_pos (by omega)) | exact absurd (nI_pos (by omega)) c45 | exact absurd c45 (nI_pos (by omega)))) (fun c45 => ?_)
      refine And.intro (fun c52 => ?_) (fun c52 => False.elim (by first | exact c52 (show (36 : Int32) ≤ nI F from (nI_leI (a := 36) (by decide) (by omega)).mpr (by omega)) | exact absurd (show (36 : Int32) ≤ nI F from (nI_leI (a := 36) (by decide) (by omega)).mpr (by omega)) c52 | exact absurd c52 (show (36 : Int32) ≤ nI F from (nI_leI (a := 36) (by decide) (by omega)).mpr (by omega))))
      exact ip_118n hn S C _ _ (fun z => absurd z.1.1.2 (fun y => by have := (nI_leI (b := 35) (by omega) (by decide)).mp y; omega))
    · rcases hv with rfl | ⟨t, ht, rfl⟩
      · skip
        refine runL_go (κ := κb) (p := p) rkL_isPipe (fun p => Nat.beq p 118) 300 rfl ?_
        refine And.intro (fun c45 => False.elim (by first | exact c45 (nI_pos (by omega)) | exact absurd (nI_pos (by omega)) c45 | exact absurd c45 (nI_pos (by omega)))) (fun c45 => ?_)
        refine And.intro (fun c52 => False.elim (by first | exact c52 (fun z => by have := (nI_leI (a := 36) (by decide) (by omega)).mp z; omega) | exact absurd (fun z => by have := (nI_leI (a := 36) (by decide) (by omega)).mp z; omega) c52 | exact absurd c52 (fun z => by have := (nI_leI (a := 36) (by decide) (by omega)).mp z; omega))) (fun c52 => ?_)
        refine And.intro (fun c57 => ?_) (fun c57 => False.elim (by first | exact c57 (by decide) | exact absurd (by decide) c57 | exact absurd c57 (by decide)))
        exact ip_118n hn S C _ _ (fun z => absurd z.2.1.1 (by decide))
      · by_cases ht36 : 36 ≤ t
        · skip
          refine runL_go (κ := κb) (p := p) rkL_isPipe (fun p => Nat.beq p 118) 300 rfl ?_
          refine And.intro (fun c45 => False.elim (by first | exact c45 (nI_pos (by omega)) | exact absurd (nI_pos (by omega)) c45 | exact absurd c45 (nI_pos (by omega)))) (fun c45 => ?_)
          refine And.intro (fun c52 => False.elim (by first | exact c52 (fun z => by have := (nI_leI (a := 36) (by decide) (by omega)).mp z; omega) | exact absurd (fun z => by have := (nI_leI (a := 36) (by decide) (by omega)).mp z; omega) c52 | exact absurd c52 (fun z => by have := (nI_leI (a := 36) (by decide) (by omega)).mp z; omega))) (fun c52 => ?_)
          refine And.intro (fun c57 => False.elim (by first | exact c57 (nI_pos (by omega)) | exact absurd (nI_pos (by omega)) c57 | exact absurd c57 (nI_pos (by omega)))) (fun c57 => ?_)
          refine And.intro (fun c64 => ?_) (fun c64 => False.elim (by first | exact c64 (show (36 : Int32) ≤ nI t from (nI_leI (a := 36) (by decide) (by omega)).mpr (by omega)) | exact absurd (show (36 : Int32) ≤ nI t from (nI_leI (a := 36) (by decide) (by omega)).mpr (by omega)) c64 | exact absurd c64 (show (36 : Int32) ≤ nI t from (nI_leI (a := 36) (by decide) (by omega)).mpr (by omega))))
          exact ip_118n hn S C _ _ (fun z => absurd z.2.1.2 (fun y => by have := (nI_leI (b := 35) (by omega) (by decide)).mp y; omega))
        · by_cases rF : σ.2 25 F = -1
          · skip
            refine runL_go (κ := κb) (p := p) rkL_isPipe (fun p => Nat.beq p 118) 300 rfl ?_
            refine And.intro (fun c45 => False.elim (by first | exact c45 (nI_pos (by omega)) | exact absurd (nI_pos (by omega)) c45 | exact absurd c45 (nI_pos (by omega)))) (fun c45 => ?_)
            refine And.intro (fun c52 => False.elim (by first | exact c52 (fun z => by have := (nI_leI (a := 36) (by decide) (by omega)).mp z; omega) | exact absurd (fun z => by have := (nI_leI (a := 36) (by decide) (by omega)).mp z; omega) c52 | exact absurd c52 (fun z => by have := (nI_leI (a := 36) (by decide) (by omega)).mp z; omega))) (fun c52 => ?_)
            refine And.intro (fun c57 => False.elim (by first | exact c57 (nI_pos (by omega)) | exact absurd (nI_pos (by omega)) c57 | exact absurd c57 (nI_pos (by omega)))) (fun c57 => ?_)
            refine And.intro (fun c64 => False.elim (by first | exact c64 (fun z => by have := (nI_leI (a := 36) (by decide) (by omega)).mp z; omega) | exact absurd (fun z => by have := (nI_leI (a := 36) (by decide) (by omega)).mp z; omega) c64 | exact absurd c64 (fun z => by have := (nI_leI (a := 36) (by decide) (by omega)).mp z; omega))) (fun c64 => ?_)
            refine And.intro (fun c70 => False.elim (by first | exact c70 (nI_pos (by omega)) | exact absurd (nI_pos (by omega)) c70 | exact absurd c70 (nI_pos (by omega)))) (fun c70 => ?_)
            refine And.intro (fun c77 => ?_) (fun c77 => False.elim (by first | exact c77 (show nI F ≤ 35 from (nI_leI (b := 35) (by omega) (by decide)).mpr (by omega)) | exact absurd (show nI F ≤ 35 from (nI_leI (b := 35) (by omega) (by decide)).mpr (by omega)) c77 | exact absurd c77 (show nI F ≤ 35 from (nI_leI (b := 35) (by omega) (by decide)).mpr (by omega))))
            refine ⟨7, F, S.2.1.ld (by decide) (show F < 36 by omega) rfl, ?_⟩
            refine And.intro (fun c87 => ?_) (fun c87 => False.elim (by first | exact c87 ((LT F (by omega)).mpr rF) | exact absurd ((LT F (by omega)).mpr rF) c87 | exact absurd c87 ((LT F (by omega)).mpr rF)))
            exact ip_118n hn S C _ _ (fun z => (isRmL (by omega)).mp z.1 rF)
          · by_cases rt : σ.2 25 t = -1
            · skip
              refine runL_go (κ := κb) (p := p) rkL_isPipe (fun p => Nat.beq p 118) 300 rfl ?_
              refine And.intro (fun c45 => False.elim (by first | exact c45 (nI_pos (by omega)) | exact absurd (nI_pos (by omega)) c45 | exact absurd c45 (nI_pos (by omega)))) (fun c45 => ?_)
              refine And.intro (fun c52 => False.elim (by first | exact c52 (fun z => by have := (nI_leI (a := 36) (by decide) (by omega)).mp z; omega) | exact absurd (fun z => by have := (nI_leI (a := 36) (by decide) (by omega)).mp z; omega) c52 | exact absurd c52 (fun z => by have := (nI_leI (a := 36) (by decide) (by omega)).mp z; omega))) (fun c52 => ?_)
              refine And.intro (fun c57 => False.elim (by first | exact c57 (nI_pos (by omega)) | exact absurd (nI_pos (by omega)) c57 | exact absurd c57 (nI_pos (by omega)))) (fun c57 => ?_)
              refine And.intro (fun c64 => False.elim (by first | exact c64 (fun z => by have := (nI_leI (a := 36) (by decide) (by omega)).mp z; omega) | exact absurd (fun z => by have := (nI_leI (a := 36) (by decide) (by omega)).mp z; omega) c64 | exact absurd c64 (fun z => by have := (nI_leI (a := 36) (by decide) (by omega)).mp z; omega))) (fun c64 => ?_)
              refine And.intro (fun c70 => False.elim (by first | exact c70 (nI_pos (by omega)) | exact absurd (nI_pos (by omega)) c70 | exact absurd c70 (nI_pos (by omega)))) (fun c70 => ?_)
              refine And.intro (fun c77 => ?_) (fun c77 => False.elim (by first | exact c77 (show nI F ≤ 35 from (nI_leI (b := 35) (by omega) (by decide)).mpr (by omega)) | exact absurd (show nI F ≤ 35 from (nI_leI (b := 35) (by omega) (by decide)).mpr (by omega)) c77 | exact absurd c77 (show nI F ≤ 35 from (nI_leI (b := 35) (by omega) (by decide)).mpr (by omega))))
              refine ⟨7, F, S.2.1.ld (by decide) (show F < 36 by omega) rfl, ?_⟩
              refine And.intro (fun c87 => False.elim (by first | exact c87 (fun z => rF ((LT F (by omega)).mp z)) | exact absurd (fun z => rF ((LT F (by omega)).mp z)) c87 | exact absurd c87 (fun z => rF ((LT F (by omega)).mp z)))) (fun c87 => ?_)
              refine And.intro (fun c93 => False.elim (by first | exact c93 (nI_pos (by omega)) | exact absurd (nI_pos (by omega)) c93 | exact absurd c93 (nI_pos (by omega)))) (fun c93 => ?_)
              refine And.intro (fun c100 => ?_) (fun c100 => False.elim (by first | exact c100 (show nI t ≤ 35 from (nI_leI (b := 35) (by omega) (by decide)).mpr (by omega)) | exact absurd (show nI t ≤ 35 from (nI_leI (b := 35) (by omega) (by decide)).mpr (by omega)) c100 | exact absurd c100 (show nI t ≤ 35 from (nI_leI (b := 35) (by omega) (by decide)).mpr (by omega))))
              refine ⟨7, t, S.2.1.ld (by decide) (show t < 36 by omega) rfl, ?_⟩
              refine And.intro (fun c110 => ?_) (fun c110 => False.elim (by first | exact c110 ((LT t (by omega)).mpr rt) | exact absurd ((LT t (by omega)).mpr rt) c110 | exact absurd c110 ((LT t (by omega)).mpr rt)))
              exact ip_118n hn S C _ _ (fun z => (isRmL (by omega)).mp z.2 rt)
            · have hx : isRm σ (nI F) := (isRmL (by omega)).mpr rF
              have hy : isRm σ (nI t) := (isRmL (by omega)).mpr rt
              refine runL_go (κ := κb) (p := p) rkL_isPipe (fun p => Nat.beq p 118) 300 rfl ?_
              refine And.intro (fun c45 => False.elim (by first | exact c45 (nI_pos (by omega)) | exact absurd (nI_pos (by omega)) c45 | exact absurd c45 (nI_pos (by omega)))) (fun c45 => ?_)
              refine And.intro (fun c52 => False.elim (by first | exact c52 (fun z => by have := (nI_leI (a := 36) (by decide) (by omega)).mp z; omega) | exact absurd (fun z => by have := (nI_leI (a := 36) (by decide) (by omega)).mp z; omega) c52 | exact absurd c52 (fun z => by have := (nI_leI (a := 36) (by decide) (by omega)).mp z; omega))) (fun c52 => ?_)
              refine And.intro (fun c57 => False.elim (by first | exact c57 (nI_pos (by omega)) | exact absurd (nI_pos (by omega)) c57 | exact absurd c57 (nI_pos (by omega)))) (fun c57 => ?_)
              refine And.intro (fun c64 => False.elim (by first | exact c64 (fun z => by have := (nI_leI (a := 36) (by decide) (by omega)).mp z; omega) | exact absurd (fun z => by have := (nI_leI (a := 36) (by decide) (by omega)).mp z; omega) c64 | exact absurd c64 (fun z => by have := (nI_leI (a := 36) (by decide) (by omega)).mp z; omega))) (fun c64 => ?_)
              refine And.intro (fun c70 => False.elim (by first | exact c70 (nI_pos (by omega)) | exact absurd (nI_pos (by omega)) c70 | exact absurd c70 (nI_pos (by omega)))) (fun c70 => ?_)
              refine And.intro (fun c77 => ?_) (fun c77 => False.elim (by first | exact c77 (show nI F ≤ 35 from (nI_leI (b := 35) (by omega) (by decide)).mpr (by omega)) | exact absurd (show nI F ≤ 35 from (nI_leI (b := 35) (by omega) (by decide)).mpr (by omega)) c77 | exact absurd c77 (show nI F ≤ 35 from (nI_leI (b := 35) (by omega) (by decide)).mpr (by omega))))
              refine ⟨7, F, S.2.1.ld (by decide) (show F < 36 by omega) rfl, ?_⟩
              refine And.intro (fun c87 => False.elim (by first | exact c87 (fun z => rF ((LT F (by omega)).mp z)) | exact absurd (fun z => rF ((LT F (by omega)).mp z)) c87 | exact absurd c87 (fun z => rF ((LT F (by omega)).mp z)))) (fun c87 => ?_)
              refine And.intro (fun c93 => False.elim (by first | exact c93 (nI_pos (by omega)) | exact absurd (nI_pos (by omega)) c93 | exact absurd c93 (nI_pos (by omega)))) (fun c93 => ?_)
              refine And.intro (fun c100 => ?_) (fun c100 => False.elim (by first | exact c100 (show nI t ≤ 35 from (nI_leI (b := 35) (by omega) (by decide)).mpr (by omega)) | exact absurd (show nI t ≤ 35 from (nI_leI (b := 35) (by omega) (by decide)).mpr (by omega)) c100 | exact absurd c100 (show nI t ≤ 35 from (nI_leI (b := 35) (by omega) (by decide)).mpr (by omega))))
              refine ⟨7, t, S.2.1.ld (by decide) (show t < 36 by omega) rfl, ?_⟩
              refine And.intro (fun c110 => False.elim (by first | exact c110 (fun z => rt ((LT t (by omega)).mp z)) | exact absurd (fun z => rt ((LT t (by omega)).mp z)) c110 | exact absurd c110 (fun z => rt ((LT t (by omega)).mp z)))) (fun c110 => ?_)
              by_cases hFt : nI F = nI t
              · exact ip_e hn S C (by omega) (by omega) ho hx hy hFt
              · by_cases hd : dst σ (nI t) (nI F).toNatClampNeg < 36
                · exact ip_w1 hn S C (by omega) (by omega) ho hx hy hFt hd
                · exact ip_w0 hn S C (by omega) (by omega) ho hx hy hFt hd
set_option maxRecDepth 20000 in
theorem ip_4 {w : W0} {κ : AH} {p : Nat} {l : LSt} {θ0 : Nat → Nat} {o q : Nat} {κb : AH} {l1 : LSt} {σ : MS} {nb nw np : Nat} (hn : np < 10) (S : CSp p κ κb σ nb nw np) (C : Cp l1 σ nb nw np) (ho : o < 60000) (hq : q < 60000) : Y w mL_isPipe θ0 (PL κ p l) (fun v κ' => PQp κ p v κ') (fun _ _ => False) 1 36 4 [some (.ref (tS 4)), some (.ref (tM 7)), some (.ref (tM 8)), some (.ref (tM 9)), some (.int (nI o)), some (.int (nI q)), none, none, none, none, none, none, none, none, none, none, none] [.ref (tM p)] (PL κb p l1) := by
  have hx := mx1 (show o % 38 < 99 by omega)
  have ex : nI o - nI o / 38 * 38 = nI (o % 38) := rm_nI (d := 38) (by omega) (by decide) (by decide)
  rw [← ex] at hx
  have e3 : nI q / 3 = nI (q / 3) := pk_div (d := 3) (by omega) (by decide) (by decide)
  have ey : nI q / 3 - nI q / 3 / 38 * 38 = nI (q / 3 % 38) := by rw [e3]; exact rm_nI (d := 38) (by omega) (by decide) (by decide)
  have e2 : nI q - nI q / 2 * 2 = nI (q % 2) := rm_nI (d := 2) (by omega) (by decide) (by decide)
  refine runL_go (κ := κb) (p := p) rkL_isPipe (fun p => Nat.beq p 41) 300 rfl ?_
  refine And.intro (by decide) ?_
  refine And.intro (by decide) ?_
  refine And.intro (fun c19 => ?_) (fun c19 => ?_)
  · skip
    refine And.intro (by decide) ?_
    exact ip_41 hn S C _ _ hx (by first | exact (by rw [e2]; exact mx2 hx (by omega)) | exact (by rw [ey]; exact (mx1 (show q / 3 % 38 < 99 by omega)).imp id (fun ⟨F, h, e⟩ => ⟨F, by omega, e⟩)))
  · skip
    refine And.intro (by decide) ?_
    refine And.intro (by decide) ?_
    exact ip_41 hn S C _ _ hx (by first | exact (by rw [e2]; exact mx2 hx (by omega)) | exact (by rw [ey]; exact (mx1 (show q / 3 % 38 < 99 by omega)).imp id (fun ⟨F, h, e⟩ => ⟨F, by omega, e⟩)))

theorem c_L_isPipe {w : W0} {κ : AH} {p : Nat} {l : LSt} {σ : MS} {o q nb nw np : Nat} {wb : Nat → Nat} (A : AK κ) (hp : 41 ≤ p) (hz : gT κ (tM p) = 0) (hI : RI κ κ σ nb nw np wb) (C : Cp l σ nb nw np) (hn : np < 10) (ho : o < 60000) (hq : q < 60000) : CY w yL_isPipe mL_isPipe [.ref (tS 4), .ref (tM 7), .ref (tM 8), .ref (tM 9), .int (nI o), .int (nI q)] (PL κ p l) (fun v κ' => PQp κ p v κ') := by
  refine CY_of mcL_isPipe (Nat.le_of_ble_eq_true rfl) (cat1 rfl) (fun θ0 => ?_)
  refine runL_ok rkL_isPipe noCut 300 _ _ _ _ _ _ ?_
  refine pL_isPipe_2 (tM p) rfl rfl hz ?_
  rw [nO_PL (by omega)]
  exact ip_4 hn ⟨⟨wb, RI_nO hI⟩, AK_nO A (by omega), AF_nO hp, SKp_nO⟩ (Cp_10 C (fun j hj => lz_o hj)) ho hq


/-! THE LAW'S isPipe: its code -/
def CSp (p : Nat) (κ κb : AH) (σ : MS) (nb nw np : Nat) : Prop := (∃ wb, RI κb κb σ nb nw np wb) ∧ AK κb ∧ AF κb p ∧ SKp p κ κb
theorem CSp_next {κ κb κ' : AH} {p : Nat} {l : LSt} {σ σ' : MS} {nb nw np n' : Nat} (h : CSp p κ κb σ nb nw np) (hre : RE (PL κb p l) κ' σ') (e8 : σ'.1 8 = nI nb) (e18 : σ'.1 18 = nI nw) (e30 : σ'.1 30 = nI n') (hn : n' ≤ 30) : ∃ κ1, κ' = PL κ1 p l ∧ CSp p κ κ1 σ' nb nw n' := by
  obtain ⟨⟨wb, hI⟩, A, F, S⟩ := h
  obtain ⟨κ1, e, hR, hk⟩ := PL_back hre
  exact ⟨κ1, e, RE_n hR e8 e18 e30 hI.1.n8 hI.1.n18 hn, AK_of A hk, AF_of F hk, S.tr hk⟩
theorem CSp_34 {κ κb κ' : AH} {p : Nat} {l : LSt} {σ : MS} {nb nw np : Nat} {c : Int32} (h : CSp p κ κb σ nb nw np) (hre : RE (PL κb p l) κ' (upS σ 34 c)) : ∃ κ1, κ' = PL κ1 p l ∧ CSp p κ κ1 (upS σ 34 c) nb nw np := by
  obtain ⟨wb, hI⟩ := h.1
  exact CSp_next h hre hI.1.e8 hI.1.e18 hI.1.e30 hI.1.n30
theorem pR_h {σ : MS} {y : Int32} {g : Nat → Nat} {i k s : Nat} (h : hb (sPt (pS0 σ y) g i) k s) : hb σ k s := by
  unfold hb at h ⊢
  rw [sPt_row (by decide) (by decide), pS0_rw (by decide)] at h
  exact h
set_option maxRecDepth 20000 in
theorem ip_425 {w : W0} {κ : AH} {p : Nat} {l : LSt} {θ0 : Nat → Nat} {o q : Nat} {κb : AH} {l1 : LSt} {σ : MS} {nb nw np : Nat} {kc ns : Nat} (hkc : kc ≤ 800) (hns : ns ≤ 24000) (hn : np < 30) (S : CSp p κ κb σ nb nw np) (C : Cp l1 σ nb nw np) (x7 x8 x9 x10 x11 : Int32) (y13 y14 y15 y16 : Option Value) : Y w mL_isPipe θ0 (PL κ p l) (fun v κ' => PQp κ p v κ') (fun _ _ => False) kc ns 425 [some (.ref (tS 4)), some (.ref (tM 7)), some (.ref (tM 8)), some (.ref (tM 9)), some (.int (nI o)), some (.int (nI q)), some (.ref (tM p)), some (.int x7), some (.int x8), some (.int x9), some (.int x10), some (.int x11), some (.int 1), y13, y14, y15, y16] [] (PL κb p l1) := by
  have a12 : l1 9 12 = nI np := C.2.1.2.2.2.1.2.2.2.2.2.2.2.2.2
  have e30 : σ.1 30 = nI np := S.1.choose_spec.1.e30
  refine runL_go (κ := κb) (p := p) rkL_isPipe noCut 300 rfl ?_
  refine And.intro (fun c427 => False.elim (by first | exact c427 (by decide) | exact absurd (by decide) c427 | exact absurd c427 (by decide))) (fun c427 => ?_)
  refine ⟨9, 12, S.2.1.ld (by decide) (by decide) rfl, ?_⟩
  refine pL_isPipe_442 rfl (Nat.ble_eq_true_of_le (by omega)) (Nat.ble_eq_true_of_le (by omega)) (w_roomAt (RI_PL S.1.choose_spec)) (fun v κ1 hq442 ho442 hk442 => ?_)
  obtain ⟨rfl, hre⟩ := hq442
  rw [a12, mRat_o e30 (by omega)] at hre
  rw [a12, mRat_o e30 (by omega)]
  obtain ⟨κ1, rfl, S1⟩ := CSp_34 S hre
  refine runL_ok rkL_isPipe noCut 300 _ _ _ _ _ _ ?_
  refine pL_isPipe_445 ?_
  refine runL_ok rkL_isPipe noCut 300 _ _ _ _ _ _ ?_
  refine And.intro (fun c447 => False.elim (by first | exact c447 rfl | exact absurd rfl c447 | exact absurd c447 rfl)) (fun c447 => ?_)
  refine And.intro ⟨Nat.le_trans (show _ ≤ 1600 by omega) (Nat.le_of_ble_eq_true rfl), Nat.le_trans (show _ ≤ 26000 by omega) (Nat.le_of_ble_eq_true rfl)⟩ ?_
  refine And.intro (by first | exact Or.inl rfl | exact Or.inr rfl) ?_
  exact ⟨rfl, κ1, l1, upS σ 34 1, nb, nw, np, S1.1.choose, rfl, S1.1.choose_spec, Cp_34 C, S1.2.2.2⟩
set_option maxRecDepth 20000 in
theorem ip_n {w : W0} {κ : AH} {p : Nat} {l : LSt} {θ0 : Nat → Nat} {o q : Nat} {κb : AH} {l1 : LSt} {σ : MS} {nb nw np : Nat} {kc ns : Nat} (hkc : kc ≤ 700) (hns : ns ≤ 22000) (hn : np < 30) (S : CSp p κ κb σ nb nw np) (C : Cp l1 σ nb nw np) (x7 x8 x9 : Int32) : Y w mL_isPipe θ0 (PL κ p l) (fun v κ' => PQp κ p v κ') (fun _ _ => False) kc ns 220 [some (.ref (tS 4)), some (.ref (tM 7)), some (.ref (tM 8)), some (.ref (tM 9)), some (.int (nI o)), some (.int (nI q)), some (.ref (tM p)), some (.int x7), some (.int x8), some (.int x9), some (.int 0), none, none, none, none, none, none] [] (PL κb p l1) := by
  refine runL_go (κ := κb) (p := p) rkL_isPipe (fun p => Nat.beq p 425) 300 rfl ?_
  refine And.intro (fun c232 => ?_) (fun c232 => False.elim (by first | exact c232 (by decide) | exact absurd (by decide) c232 | exact absurd c232 (by decide)))
  refine And.intro (fun c368 => False.elim (by first | exact c368 (by decide) | exact absurd (by decide) c368 | exact absurd c368 (by decide))) (fun c368 => ?_)
  refine And.intro (fun c373 => ?_) (fun c373 => False.elim (by first | exact c373 (by decide) | exact absurd (by decide) c373 | exact absurd c373 (by decide)))
  refine ⟨9, 12, S.2.1.ld (by decide) (by decide) rfl, ?_⟩
  refine And.intro (fun c415 => ?_) (fun c415 => False.elim (by first | exact c415 (by decide) | exact absurd (by decide) c415 | exact absurd c415 (by decide)))
  refine ⟨9, 12, S.2.1.ld (by decide) (by decide) rfl, ?_⟩
  have Z := ip_425 (w := w) (θ0 := θ0) (l := l) (o := o) (q := q) (kc := kc) (ns := ns) (by omega) (by omega) hn S C x7 x8 x9 0 x7 (some (.int 0)) none none none
  rw [Int32.add_zero, lu_id]
  exact Z
set_option maxRecDepth 20000 in
theorem ip_230 {w : W0} {κ : AH} {p : Nat} {l : LSt} {θ0 : Nat → Nat} {o q : Nat} {σ : MS} {nb nw np F t : Nat} {l2 : LSt} (hF : F < 36) (ht : t < 36) (ho : hOK σ) (e8 : σ.1 8 = nI nb) (e18 : σ.1 18 = nI nw) (e30 : σ.1 30 = nI np) (hnp : np < 10) (C : Cp l2 σ nb nw np) (hfar : farR l2 σ (nI t)) (hD : dst σ (nI t) (nI F).toNatClampNeg < 36) : ∀ (m i : Nat), m + i = dst σ (nI t) (nI F).toNatClampNeg + 1 → ∀ (kc ns : Nat), kc ≤ 40 + 15 * i → ns ≤ 2000 + 576 * i → ∀ (κb : AH) (l1 : LSt), CSp p κ κb (sPip σ (nI F) (nI t)) nb nw (np + 1) → (∀ j, j ≠ 8 → l1 j = l2 j) → pR l1 σ (nI t) (pth σ (dst σ (nI t)) (nI F).toNatClampNeg) i → ∀ (x11 : Int32) (y14 y15 y16 : Option Value), (i ≤ dst σ (nI t) (nI F).toNatClampNeg → x11 = nI (pth σ (dst σ (nI t)) (nI F).toNatClampNeg i)) → Y w mL_isPipe θ0 (PL κ p l) (fun v κ' => PQp κ p v κ') (fun _ _ => False) kc ns 230 [some (.ref (tS 4)), some (.ref (tM 7)), some (.ref (tM 8)), some (.ref (tM 9)), some (.int (nI o)), some (.int (nI q)), some (.ref (tM p)), some (.int (nI F)), some (.int (nI t)), some (.int 1), some (.int 1), some (.int x11), some (.int 1), some (.int (nI i)), y14, y15, y16] [] (PL κb p l1) := by
  have eF : (nI F).toNatClampNeg = F := nI_clamp (by omega)
  have hf : isD σ (nI t) (dst σ (nI t)) := dst_isD ho
  have hl2 : l2 10 F = nI (dst σ (nI t) (nI F).toNatClampNeg) := by rw [hfar F hF, eF, if_pos (by rw [← eF]; exact hD)]
  have a12 : l2 9 12 = nI np := C.2.1.2.2.2.1.2.2.2.2.2.2.2.2.2
  have E8 : (sPip σ (nI F) (nI t)).1 8 = nI nb := (sPip_num (by decide) (by decide)).trans e8
  have E18 : (sPip σ (nI F) (nI t)).1 18 = nI nw := (sPip_num (by decide) (by decide)).trans e18
  have E30 : (sPip σ (nI F) (nI t)).1 30 = nI (np + 1) := by rw [sPip_30, e30]; exact nI_1 np
  have hf36 : (nI F).toNatClampNeg < 36 := by rw [eF]; exact hF
  intro m
  induction m with
  | zero =>
    intro i hi kc ns hkc hns κb l1 S hl hR x11 y14 y15 y16 hx
    have e : i = dst σ (nI t) (nI F).toNatClampNeg + 1 := by omega
    subst e
    have hl10 : l1 10 F = nI (dst σ (nI t) (nI F).toNatClampNeg) := by rw [hl 10 (by decide)]; exact hl2
    have hl12 : l1 9 12 = nI np := by rw [hl 9 (by decide)]; exact a12
    refine runL_go (κ := κb) (p := p) rkL_isPipe (fun p => Nat.beq p 425) 300 rfl ?_
    refine And.intro (fun c232 => False.elim (by first | exact c232 (by decide) | exact absurd (by decide) c232 | exact absurd c232 (by decide))) (fun c232 => ?_)
    refine ⟨10, F, S.2.2.1.ld (show F < 36 by omega) rfl, ?_⟩
    refine And.intro (fun c242 => ?_) (fun c242 => False.elim (by first | exact c242 (by rw [hl10]; exact nI_lt (by omega) (by omega)) | exact absurd (by rw [hl10]; exact nI_lt (by omega) (by omega)) c242 | exact absurd c242 (by rw [hl10]; exact nI_lt (by omega) (by omega))))
    refine And.intro (fun c368 => False.elim (by first | exact c368 (by decide) | exact absurd (by decide) c368 | exact absurd c368 (by decide))) (fun c368 => ?_)
    refine And.intro (fun c373 => False.elim (by first | exact c373 (by decide) | exact absurd (by decide) c373 | exact absurd c373 (by decide))) (fun c373 => ?_)
    refine ⟨9, 12, S.2.1.ld (by decide) (by decide) rfl, ?_⟩
    refine ⟨10, F, S.2.2.1.ld (show F < 36 by omega) rfl, ?_⟩
    refine pL_isPipe_394 rfl (Nat.ble_eq_true_of_le (by omega)) (Nat.ble_eq_true_of_le (by omega)) (w_roomAt (RI_PL S.1.choose_spec)) (fun v κ1 hq394 ho394 hk394 => ?_)
    obtain ⟨rfl, hre⟩ := hq394
    have em := (show mRat (sPip σ (nI F) (nI t)) (l1 9 12) (l1 10 F + 1) = (-1, sPip σ (nI F) (nI t)) by rw [hl12, hl10, nI_1]; exact mRat_e e30 (by omega) hD)
    rw [em] at hre
    have ev : dv (-3000000) 0 0 (-1, sPip σ (nI F) (nI t)) = -1 := if_pos sPip_34
    rw [em, ev]
    obtain ⟨κ1, rfl, S1⟩ := CSp_next S hre E8 E18 E30 (by omega)
    refine runL_ok rkL_isPipe (fun p => Nat.beq p 425) 300 _ _ _ _ _ _ ?_
    refine And.intro (fun c398 => False.elim (by first | exact c398 rfl | exact absurd rfl c398 | exact absurd c398 rfl)) (fun c398 => ?_)
    refine ⟨9, 12, S1.2.1.ld (by decide) (by decide) rfl, ?_⟩
    refine And.intro (fun c415 => False.elim (by first | exact c415 (by decide) | exact absurd (by decide) c415 | exact absurd c415 (by decide))) (fun c415 => ?_)
    refine ⟨9, 12, S1.2.1.ld (by decide) (by decide) rfl, ?_⟩
    have Cq : Cp (lu l1 9 12 (l1 9 12 + 1)) (sPip σ (nI F) (nI t)) nb nw (np + 1) := Cp_sPip C e30 hnp (fun j h8 h9 _ => by rw [← hl j h8]; exact funext fun k => lu_o (fun z => h9 z.1)) (fun k hk => by rw [lu_o (fun z => hk z.2), hl 9 (by decide)]) (by rw [lu_s, hl12]; exact nI_1 np) (fun c hc => by rw [lu_o (fun z => absurd z.1 (by decide))]; exact pR_e hR c hc)
    exact ip_425 (by omega) (by omega) (by omega) S1 Cq _ _ _ _ _ _ _ _ _
  | succ m ih =>
    intro i hi kc ns hkc hns κb l1 S hl hR x11 y14 y15 y16 hx
    have hiD : i ≤ dst σ (nI t) (nI F).toNatClampNeg := by omega
    obtain rfl := hx hiD
    have hl10 : l1 10 F = nI (dst σ (nI t) (nI F).toNatClampNeg) := by rw [hl 10 (by decide)]; exact hl2
    have hl12 : l1 9 12 = nI np := by rw [hl 9 (by decide)]; exact a12
    obtain ⟨hg36, hgs⟩ := pth_ok ho hf hf36 hD i hiD
    have hgl : dst σ (nI t) (pth σ (dst σ (nI t)) (nI F).toNatClampNeg i) < 36 := by omega
    have hop : opn σ (pth σ (dst σ (nI t)) (nI F).toNatClampNeg i) := rP_opn ((hf _ hg36).2.1 hgl)
    have hR2 := pR_s hR hg36 hop (fun j hj => pth_ne ho hf hf36 hD (by omega) hiD (by omega))
    have hfr : ∀ c, c < 36 → (lu l1 8 (pth σ (dst σ (nI t)) (nI F).toNatClampNeg i) (l1 8 (pth σ (dst σ (nI t)) (nI F).toNatClampNeg i) + 32)) 10 c = nI (if dst σ (nI t) c < 36 then dst σ (nI t) c else 99) := fun c hc => by rw [lu_o (fun z => absurd z.1 (by decide)), hl 10 (by decide)]; exact hfar c hc
    have hfk : (lu l1 8 (pth σ (dst σ (nI t)) (nI F).toNatClampNeg i) (l1 8 (pth σ (dst σ (nI t)) (nI F).toNatClampNeg i) + 32)) 10 (pth σ (dst σ (nI t)) (nI F).toNatClampNeg i) = nI (dst σ (nI t) (pth σ (dst σ (nI t)) (nI F).toNatClampNeg i)) := by rw [hfr _ hg36, if_pos hgl]
    have KI : ∀ (kc ns : Nat), kc ≤ 55 + 15 * i → ns ≤ 2576 + 576 * i → ∀ κb : AH, CSp p κ κb (sPip σ (nI F) (nI t)) nb nw (np + 1) → ∀ (n s : Nat), n + s = 4 → ∀ y16 : Option Value, Y w mL_isPipe θ0 (PL κ p l) (fun v κ' => PQp κ p v κ') (fun _ _ => False) kc ns 293 [some (.ref (tS 4)), some (.ref (tM 7)), some (.ref (tM 8)), some (.ref (tM 9)), some (.int (nI o)), some (.int (nI q)), some (.ref (tM p)), some (.int (nI F)), some (.int (nI t)), some (.int 1), some (.int 1), some (.int (nI (pth σ (dst σ (nI t)) (nI F).toNatClampNeg i))), some (.int 1), some (.int (nI i)), some (.int (nrS σ (dst σ (nI t)) (pth σ (dst σ (nI t)) (nI F).toNatClampNeg i) s)), some (.int (nI s)), y16] [] (PL κb p (lu l1 8 (pth σ (dst σ (nI t)) (nI F).toNatClampNeg i) (l1 8 (pth σ (dst σ (nI t)) (nI F).toNatClampNeg i) + 32))) := by
      intro kc ns hkc hns κb S n
      induction n with
      | zero =>
        intro s hs y16
        have e : s = 4 := by omega
        subst e
        refine runL_go (κ := κb) (p := p) rkL_isPipe (fun p => Nat.beq p 230) 300 rfl ?_
        refine And.intro (fun c296 => ?_) (fun c296 => False.elim (by first | exact c296 (by decide) | exact absurd (by decide) c296 | exact absurd c296 (by decide)))
        have Z := ih (i + 1) (by omega) kc ns (by omega) (by omega) κb _ S (fun j h8 => by rw [← hl j h8]; exact funext fun k => lu_o (fun z => h8 z.1)) hR2 (nrS σ (dst σ (nI t)) (pth σ (dst σ (nI t)) (nI F).toNatClampNeg i) 4) (some (.int (nrS σ (dst σ (nI t)) (pth σ (dst σ (nI t)) (nI F).toNatClampNeg i) 4))) (some (.int (nI 4))) y16 (fun h => (nrr_ok ho hf hg36 (by omega) hgl).1)
        rw [← nI_1 i] at Z
        exact Z
      | succ n ihn =>
        intro s hs y16
        have hok : hb (sPt (pS0 σ (nI t)) (pth σ (dst σ (nI t)) (nI F).toNatClampNeg) (i + 1)) (pth σ (dst σ (nI t)) (nI F).toNatClampNeg i) s → okS (pth σ (dst σ (nI t)) (nI F).toNatClampNeg i) s := fun z => ho _ _ hg36 (by omega) (pR_h z)
        refine runL_go (κ := κb) (p := p) rkL_isPipe (fun p => Nat.beq p 293) 300 rfl ?_
        refine And.intro (fun c296 => False.elim (by first | exact c296 (fun z => by have := (nI_leI (a := 4) (by decide) (by omega)).mp z; omega) | exact absurd (fun z => by have := (nI_leI (a := 4) (by decide) (by omega)).mp z; omega) c296 | exact absurd c296 (fun z => by have := (nI_leI (a := 4) (by decide) (by omega)).mp z; omega))) (fun c296 => ?_)
        refine pL_isPipe_304 rfl (Nat.ble_eq_true_of_le (by omega)) (Nat.ble_eq_true_of_le (by omega)) (c_L_beyond S.2.1 rfl rfl hg36 (by omega) (hR2 _ hg36) hok) (fun v κ1 hq304 ho304 hk304 => ?_)
        obtain ⟨rfl, rfl⟩ := hq304
        rw [pR_b]
        refine runL_ok rkL_isPipe (fun p => Nat.beq p 293) 300 _ _ _ _ _ _ ?_
        refine And.intro (fun c311 => ?_) (fun c311 => ?_)
        · skip
          have en : nrS σ (dst σ (nI t)) (pth σ (dst σ (nI t)) (nI F).toNatClampNeg i) (s + 1) = nrS σ (dst σ (nI t)) (pth σ (dst σ (nI t)) (nI F).toNatClampNeg i) s := if_neg (fun z => by rw [byn_y z.1.1] at c311; exact nI_pos (by have := stp_lt hg36 (ho _ _ hg36 (by omega) z.1.1) (show s < 4 by omega); omega) c311)
          have Z := ihn (s + 1) (by omega) (some (.int (byF σ (pth σ (dst σ (nI t)) (nI F).toNatClampNeg i) s)))
          rw [en, ← nI_1 s] at Z
          exact Z
        · skip
          have hh : hb σ (pth σ (dst σ (nI t)) (nI F).toNatClampNeg i) s := Classical.byContradiction fun z => c311 (by rw [byn_n z]; decide)
          have hb36 : stp (pth σ (dst σ (nI t)) (nI F).toNatClampNeg i) s < 36 := stp_lt hg36 (ho _ _ hg36 (by omega) hh) (by omega)
          have hst := (hf _ hb36).1
          have hce := nrS_c hgl hst
          refine ⟨10, (stp (pth σ (dst σ (nI t)) (nI F).toNatClampNeg i) s), S.2.2.1.ld hb36 (byn_y hh), ?_⟩
          refine ⟨10, (pth σ (dst σ (nI t)) (nI F).toNatClampNeg i), S.2.2.1.ld hg36 rfl, ?_⟩
          refine And.intro (fun c326 => ?_) (fun c326 => ?_)
          · skip
            rw [hfr _ hb36, hfk, hce] at c326
            have en : nrS σ (dst σ (nI t)) (pth σ (dst σ (nI t)) (nI F).toNatClampNeg i) (s + 1) = nrS σ (dst σ (nI t)) (pth σ (dst σ (nI t)) (nI F).toNatClampNeg i) s := if_neg (fun z => c326 z.1.2)
            have Z := ihn (s + 1) (by omega) (some (.int (byF σ (pth σ (dst σ (nI t)) (nI F).toNatClampNeg i) s)))
            rw [en, ← nI_1 s] at Z
            exact Z
          · skip
            rw [hfr _ hb36, hfk, hce] at c326
            refine And.intro (fun c331 => ?_) (fun c331 => ?_)
            · skip
              have en : nrS σ (dst σ (nI t)) (pth σ (dst σ (nI t)) (nI F).toNatClampNeg i) (s + 1) = byF σ (pth σ (dst σ (nI t)) (nI F).toNatClampNeg i) s := by rw [byn_y hh]; exact if_pos ⟨⟨hh, c326⟩, (nrS_or ho hg36 s (by omega)).elim Or.inl (fun ⟨d, hd, e, _⟩ => absurd (by rw [← e]; exact c331) (nI_pos (n := d) (by omega)))⟩
              have Z := ihn (s + 1) (by omega) (some (.int (byF σ (pth σ (dst σ (nI t)) (nI F).toNatClampNeg i) s)))
              rw [en, ← nI_1 s] at Z
              exact Z
            · skip
              refine And.intro (fun c338 => ?_) (fun c338 => ?_)
              · skip
                have en : nrS σ (dst σ (nI t)) (pth σ (dst σ (nI t)) (nI F).toNatClampNeg i) (s + 1) = nrS σ (dst σ (nI t)) (pth σ (dst σ (nI t)) (nI F).toNatClampNeg i) s := if_neg (fun z => z.2.elim (fun y => c331 (by rw [y]; decide)) (fun y => by rw [byn_y hh] at c338; exact absurd y (Int32.not_lt.mpr c338)))
                have Z := ihn (s + 1) (by omega) (some (.int (byF σ (pth σ (dst σ (nI t)) (nI F).toNatClampNeg i) s)))
                rw [en, ← nI_1 s] at Z
                exact Z
              · skip
                have en : nrS σ (dst σ (nI t)) (pth σ (dst σ (nI t)) (nI F).toNatClampNeg i) (s + 1) = byF σ (pth σ (dst σ (nI t)) (nI F).toNatClampNeg i) s := by rw [byn_y hh] at c338 ⊢; exact if_pos ⟨⟨hh, c326⟩, Or.inr (Int32.not_le.mp c338)⟩
                have Z := ihn (s + 1) (by omega) (some (.int (byF σ (pth σ (dst σ (nI t)) (nI F).toNatClampNeg i) s)))
                rw [en, ← nI_1 s] at Z
                exact Z
    refine runL_go (κ := κb) (p := p) rkL_isPipe (fun p => Nat.beq p 293) 300 rfl ?_
    refine And.intro (fun c232 => False.elim (by first | exact c232 (by decide) | exact absurd (by decide) c232 | exact absurd c232 (by decide))) (fun c232 => ?_)
    refine ⟨10, F, S.2.2.1.ld (show F < 36 by omega) rfl, ?_⟩
    refine And.intro (fun c242 => False.elim (by first | exact c242 (by rw [hl10]; exact fun z => absurd ((nI_ltI (by omega) (by omega)).mp z) (by omega)) | exact absurd (by rw [hl10]; exact fun z => absurd ((nI_ltI (by omega) (by omega)).mp z) (by omega)) c242 | exact absurd c242 (by rw [hl10]; exact fun z => absurd ((nI_ltI (by omega) (by omega)).mp z) (by omega)))) (fun c242 => ?_)
    refine And.intro (fun c247 => False.elim (by first | exact c247 (by decide) | exact absurd (by decide) c247 | exact absurd c247 (by decide))) (fun c247 => ?_)
    refine ⟨9, 12, S.2.1.ld (by decide) (by decide) rfl, ?_⟩
    refine pL_isPipe_263 rfl (Nat.ble_eq_true_of_le (by omega)) (Nat.ble_eq_true_of_le (by omega)) (w_roomAt (RI_PL S.1.choose_spec)) (fun v κ1 hq263 ho263 hk263 => ?_)
    obtain ⟨rfl, hre⟩ := hq263
    have em := (show mRat (sPip σ (nI F) (nI t)) (l1 9 12) (nI i) = (nI (pth σ (dst σ (nI t)) (nI F).toNatClampNeg i), sPip σ (nI F) (nI t)) by rw [hl12]; exact mRat_y e30 (by omega) hD hiD)
    rw [em] at hre
    have ev : dv (-3000000) 0 0 (nI (pth σ (dst σ (nI t)) (nI F).toNatClampNeg i), sPip σ (nI F) (nI t)) = nI (pth σ (dst σ (nI t)) (nI F).toNatClampNeg i) := if_pos sPip_34
    rw [em, ev]
    obtain ⟨κ1, rfl, S1⟩ := CSp_next S hre E8 E18 E30 (by omega)
    refine runL_ok rkL_isPipe (fun p => Nat.beq p 293) 300 _ _ _ _ _ _ ?_
    refine And.intro (fun c268 => False.elim (by first | exact c268 rfl | exact absurd rfl c268 | exact absurd c268 rfl)) (fun c268 => ?_)
    refine ⟨8, (pth σ (dst σ (nI t)) (nI F).toNatClampNeg i), S1.2.1.ld (by decide) (show _ < 37 by omega) rfl, ?_⟩
    refine ⟨8, (pth σ (dst σ (nI t)) (nI F).toNatClampNeg i), S1.2.1.ld (by decide) (show _ < 37 by omega) rfl, ?_⟩
    exact KI _ _ (by omega) (by omega) κ1 S1 4 0 rfl y16

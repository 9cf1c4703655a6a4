
/-! THE LAW'S HELPERS -/
def CYH (w : W0) (y : MethodName) (M : MI) (as : List Value) (κ : AH) (Q : Option Value → AH → Prop) : Prop := ∀ θ H, RN θ κ H → okK κ as → Ch w y M (as.map (rnV θ)) H (QR θ κ Q)
def hQ (κ : AH) (a : Int32 × MS) (v : Option Value) (κ' : AH) : Prop := v = some (.int (a.2.1 34)) ∧ RE κ κ' a.2 ∧ (a.2.1 34 = 0 → gL κ' (tM 41) 0 = a.1.toInt64)
theorem sL_D {S : Nat → Prop} {κ : AH} {a k : Nat} {x : Int64} : Dif S κ (sL κ a k x) := fun _ _ => ⟨rfl, rfl, fun _ => rfl, fun _ => rfl⟩
theorem RE_sL {κ0 κ : AH} {σ : MS} {a k : Nat} {x : Int64} (h : RE κ0 κ σ) : RE κ0 (sL κ a k x) σ := by
  obtain ⟨nb, nw, np, wb, I, ⟨G, N, B, W, R, P, H, L⟩, F⟩ := h
  have D := sL_D (S := fun _ => False) (κ := κ) (a := a) (k := k) (x := x)
  exact ⟨nb, nw, np, wb, I, ⟨SG_d D (fun i hi z => z) G, hNm_d D id id id N, hB_d D id (fun _ => id) B, hW_d D id (fun _ => id) W, hRm_d D id (fun _ _ => id) R, hPi_d D id (fun _ => id) (fun _ => id) P, hHu_d D id H, hLe_d D id id L⟩, F.tr (FM_d D (fun _ => id))⟩
/-- the ends of a helper -/
theorem hq_ret {κ κ' h' : AH} {θ θ' : Nat → Nat} {a : Int32 × MS} (ho : gT κ (tM 41) = 13) (h0 : a.2.1 34 = 0) (hr : RE κ κ' a.2) (hN : RN θ' κ' h') (hE : Ext κ θ κ' θ') : QR θ κ (hQ κ a) (some (.int 0)) (sL h' (θ (tM 41)) 0 a.1.toInt64) := by
  have h41 : gT κ (tM 41) ≠ 0 := by rw [ho]; decide
  obtain ⟨e1, e2, e3⟩ := hE _ h41
  rw [← e3]
  refine ⟨θ', some (.int 0), sL κ' (tM 41) 0 a.1.toInt64, hN.sL (by rw [e1, ho]; decide), hE.sL, rfl, fun x hx => by cases hx; trivial, by rw [h0], RE_sL hr, fun _ => ?_⟩
  rw [gL_sL, if_pos ⟨rfl, rfl⟩]
theorem hq_ex {κ κ' h' : AH} {θ θ' : Nat → Nat} {a : Int32 × MS} {c : Int32} (h0 : a.2.1 34 = c) (hc : ¬ c = 0) (hr : RE κ κ' a.2) (hN : RN θ' κ' h') (hE : Ext κ θ κ' θ') : QR θ κ (hQ κ a) (some (.int c)) h' := ⟨θ', some (.int c), κ', hN, hE, rfl, fun x hx => by cases hx; trivial, by rw [h0], hr, fun z => absurd (h0.symm.trans z) hc⟩
theorem out_ok {κ κ' h' : AH} {θ θ' : Nat → Nat} (ho : gT κ (tM 41) = 13 ∧ gN κ (tM 41) = 1) (hN : RN θ' κ' h') (hE : Ext κ θ κ' θ') : gT h' (θ (tM 41)) = 13 ∧ vp_in 0 (gN h' (θ (tM 41))) := by
  have h41 : gT κ (tM 41) ≠ 0 := by rw [ho.1]; decide
  obtain ⟨e1, e2, e3⟩ := hE _ h41
  obtain ⟨b1, b2, -⟩ := hN.1 (tM 41) (by rw [e1, ho.1]; decide)
  rw [← e3, b1, b2, e1, e2, ho.1, ho.2]
  exact ⟨rfl, vp_in_nI (n := 0) (by decide) (by decide)⟩
def tL_cell : Nat → CE := fun pc => cond (Nat.ble 23 pc) noC (cond (Nat.ble pc 9) (cond (Nat.ble pc 3) (cond (Nat.ble pc 1) (cond (Nat.ble pc 0) (cond (Nat.beq pc 0) (.aload_n 3, 1, 0, 0, 0, 0) noC) (cond (Nat.beq pc 1) (.iconst 0, 2, 0, 0, 0, 0) noC)) (cond (Nat.ble pc 2) (cond (Nat.beq pc 2) (.aload_n 0, 3, 0, 0, 0, 0) noC) (cond (Nat.beq pc 3) (.iload_n 1, 4, 0, 0, 0, 0) noC))) (cond (Nat.ble pc 5) (cond (Nat.ble pc 4) (cond (Nat.beq pc 4) (.iload_n 2, 5, 0, 0, 0, 0) noC) (cond (Nat.beq pc 5) (.invokevirtual 71, 8, 0, 0, 0, 0) noC)) (cond (Nat.ble pc 8) (cond (Nat.beq pc 8) (.i2l, 9, 0, 0, 0, 0) noC) (cond (Nat.beq pc 9) (.lastore, 10, 0, 0, 0, 0) noC)))) (cond (Nat.ble pc 16) (cond (Nat.ble pc 13) (cond (Nat.ble pc 10) (cond (Nat.beq pc 10) (.goto 11, 13, 21, 0, 0, 0) noC) (cond (Nat.beq pc 13) (.astore 4, 15, 0, 0, 0, 0) noC)) (cond (Nat.ble pc 15) (cond (Nat.beq pc 15) (.iconst 1, 16, 0, 0, 0, 1) noC) (cond (Nat.beq pc 16) (.ireturn, 17, 0, 0, 0, 0) noC))) (cond (Nat.ble pc 19) (cond (Nat.ble pc 17) (cond (Nat.beq pc 17) (.astore 4, 19, 0, 0, 0, 0) noC) (cond (Nat.beq pc 19) (.iconst 2, 20, 0, 0, 0, 2) noC)) (cond (Nat.ble pc 20) (cond (Nat.beq pc 20) (.ireturn, 21, 0, 0, 0, 0) noC) (cond (Nat.ble pc 21) (cond (Nat.beq pc 21) (.iconst 0, 22, 0, 0, 0, 0) noC) (cond (Nat.beq pc 22) (.ireturn, 23, 0, 0, 0, 0) noC))))))
theorem rkL_cell : RK mL_cell tL_cell := ⟨[], [], 23, (fun _ h => nomatch h), (fun _ h => nomatch h), by decide +kernel, fun pc h => by show (cond (Nat.ble 23 pc) noC _).1 = _; rw [Nat.ble_eq_true_of_le h]; rfl⟩
theorem hdL_hall_1 : HDL mL_hall "java/lang/IllegalArgumentException" 5 13 := ⟨[], _, _, "java/lang/IllegalArgumentException", rfl, (fun z hz => nomatch hz), rfl, by decide, inT 251 (by decide +kernel) rfl, by decide +kernel, rfl⟩
set_option maxRecDepth 20000 in
theorem h_hall {w : W0} {κ : AH} {σ : MS} {nb nw np : Nat} {wb : Nat → Nat} (h : RI κ κ σ nb nw np wb) (ho : gT κ (tM 41) = 13 ∧ gN κ (tM 41) = 1) {f t : Int32} : CYH w yL_hall mL_hall [.ref (tS 4), .int f, .int t, .ref (tM 41)] κ (hQ κ (mHall σ f t)) := by
  intro θ H hN hK
  have h4 : gT κ (tS 4) = 9 := h.2.1.1.t4
  have hb : gT H (θ (tS 4)) = 9 := (hN.1 (tS 4) (by rw [h4]; decide)).1.trans h4
  refine Ch_of mcL_hall (Nat.le_of_ble_eq_true rfl) (fun v hv => by rcases List.mem_map.mp hv with ⟨x9, hx, rfl⟩; rw [cat_rn]; exact cat1 (as := [.ref (tS 4), .int f, .int t, .ref (tM 41)]) rfl x9 hx) ?_
  refine run_ok rkL_hall noCut 40 _ _ _ _ _ _ ?_
  refine x_callX (Cl := RX8) (as := [.int f, .int t]) (by decide +kernel : decode cL_hall 5 = .ok (.invokevirtual 7, 3)) lkL_7 mcX8_hall ⟨by decide, by decide⟩ ciX8 rfl (Nat.le_of_ble_eq_true rfl) (by decide) (by decide) hb (k_hall (κ0 := κ) h θ H hN (hK.sub (by simp))) (fun v h' q => ?_) (fun E h' q => ?_)
  · obtain ⟨θ', v', κ', a, b, rfl, d, h34, rfl, hre⟩ := q
    refine run_ok rkL_hall noCut 40 _ _ _ _ _ _ ?_
    refine And.intro (out_ok ho a b) ?_
    exact And.intro ⟨(show _ ≤ _ by decide), (show _ ≤ _ by decide)⟩ (hq_ret ho.1 h34 hre a b)
  · obtain ⟨θ', κ', a, b, hre, q⟩ := q
    rcases q with ⟨h34, rfl⟩
    · refine ⟨13, hdL_hall_1, fun q => ?_⟩
      refine run_ok rkL_hall noCut 40 _ _ _ _ _ _ ?_
      exact And.intro ⟨(show _ ≤ _ by decide), (show _ ≤ _ by decide)⟩ (hq_ex h34 (by decide) hre a b)
theorem hdL_crane_1 : HDL mL_crane "java/lang/IndexOutOfBoundsException" 5 13 := ⟨[], _, _, "java/lang/IndexOutOfBoundsException", rfl, (fun z hz => nomatch hz), rfl, by decide, inT 330 (by decide +kernel) rfl, by decide +kernel, rfl⟩
theorem hdL_crane_2 : HDL mL_crane "java/lang/IllegalArgumentException" 5 17 := ⟨[_], _, _, "java/lang/IllegalArgumentException", rfl, (fun z hz => by
    simp only [List.mem_cons, List.not_mem_nil, or_false] at hz
    subst hz
    exact Or.inr ⟨by decide, "java/lang/IndexOutOfBoundsException", inT 330 (by decide +kernel) rfl, by decide +kernel⟩), rfl, by decide, inT 251 (by decide +kernel) rfl, by decide +kernel, rfl⟩
set_option maxRecDepth 20000 in
theorem h_crane {w : W0} {κ : AH} {σ : MS} {nb nw np : Nat} {wb : Nat → Nat} (h : RI κ κ σ nb nw np wb) (ho : gT κ (tM 41) = 13 ∧ gN κ (tM 41) = 1) {f t : Int32} : CYH w yL_crane mL_crane [.ref (tS 4), .int f, .int t, .ref (tM 41)] κ (hQ κ (mCrane σ f t)) := by
  intro θ H hN hK
  have h4 : gT κ (tS 4) = 9 := h.2.1.1.t4
  have hb : gT H (θ (tS 4)) = 9 := (hN.1 (tS 4) (by rw [h4]; decide)).1.trans h4
  refine Ch_of mcL_crane (Nat.le_of_ble_eq_true rfl) (fun v hv => by rcases List.mem_map.mp hv with ⟨x9, hx, rfl⟩; rw [cat_rn]; exact cat1 (as := [.ref (tS 4), .int f, .int t, .ref (tM 41)]) rfl x9 hx) ?_
  refine run_ok rkL_crane noCut 40 _ _ _ _ _ _ ?_
  refine x_callX (Cl := RX8) (as := [.int f, .int t]) (by decide +kernel : decode cL_crane 5 = .ok (.invokevirtual 15, 3)) lkL_15 mcX8_crane ⟨by decide, by decide⟩ ciX8 rfl (Nat.le_of_ble_eq_true rfl) (by decide) (by decide) hb (k_crane (κ0 := κ) h θ H hN (hK.sub (by simp))) (fun v h' q => ?_) (fun E h' q => ?_)
  · obtain ⟨θ', v', κ', a, b, rfl, d, h34, rfl, hre⟩ := q
    refine run_ok rkL_crane noCut 40 _ _ _ _ _ _ ?_
    refine And.intro (out_ok ho a b) ?_
    exact And.intro ⟨(show _ ≤ _ by decide), (show _ ≤ _ by decide)⟩ (hq_ret ho.1 h34 hre a b)
  · obtain ⟨θ', κ', a, b, hre, q⟩ := q
    rcases q with ⟨h34, rfl⟩ | ⟨h34, rfl⟩
    · refine ⟨13, hdL_crane_1, fun q => ?_⟩
      refine run_ok rkL_crane noCut 40 _ _ _ _ _ _ ?_
      exact And.intro ⟨(show _ ≤ _ by decide), (show _ ≤ _ by decide)⟩ (hq_ex h34 (by decide) hre a b)
    · refine ⟨17, hdL_crane_2, fun q => ?_⟩
      refine run_ok rkL_crane noCut 40 _ _ _ _ _ _ ?_
      exact And.intro ⟨(show _ ≤ _ by decide), (show _ ≤ _ by decide)⟩ (hq_ex h34 (by decide) hre a b)
theorem hdL_welder_1 : HDL mL_welder "java/lang/IndexOutOfBoundsException" 5 13 := ⟨[], _, _, "java/lang/IndexOutOfBoundsException", rfl, (fun z hz => nomatch hz), rfl, by decide, inT 330 (by decide +kernel) rfl, by decide +kernel, rfl⟩
theorem hdL_welder_2 : HDL mL_welder "java/lang/IllegalArgumentException" 5 17 := ⟨[_], _, _, "java/lang/IllegalArgumentException", rfl, (fun z hz => by
    simp only [List.mem_cons, List.not_mem_nil, or_false] at hz
    subst hz
    exact Or.inr ⟨by decide, "java/lang/IndexOutOfBoundsException", inT 330 (by decide +kernel) rfl, by decide +kernel⟩), rfl, by decide, inT 251 (by decide +kernel) rfl, by decide +kernel, rfl⟩
set_option maxRecDepth 20000 in
theorem h_welder {w : W0} {κ : AH} {σ : MS} {nb nw np : Nat} {wb : Nat → Nat} (h : RI κ κ σ nb nw np wb) (ho : gT κ (tM 41) = 13 ∧ gN κ (tM 41) = 1) {y f : Int32} : CYH w yL_welder mL_welder [.ref (tS 4), .int y, .int f, .ref (tM 41)] κ (hQ κ (mWelder σ y f)) := by
  intro θ H hN hK
  have h4 : gT κ (tS 4) = 9 := h.2.1.1.t4
  have hb : gT H (θ (tS 4)) = 9 := (hN.1 (tS 4) (by rw [h4]; decide)).1.trans h4
  refine Ch_of mcL_welder (Nat.le_of_ble_eq_true rfl) (fun v hv => by rcases List.mem_map.mp hv with ⟨x9, hx, rfl⟩; rw [cat_rn]; exact cat1 (as := [.ref (tS 4), .int y, .int f, .ref (tM 41)]) rfl x9 hx) ?_
  refine run_ok rkL_welder noCut 40 _ _ _ _ _ _ ?_
  refine x_callX (Cl := RX8) (as := [.int y, .int f]) (by decide +kernel : decode cL_welder 5 = .ok (.invokevirtual 20, 3)) lkL_20 mcX8_welder ⟨by decide, by decide⟩ ciX8 rfl (Nat.le_of_ble_eq_true rfl) (by decide) (by decide) hb (k_welder (κ0 := κ) h θ H hN (hK.sub (by simp))) (fun v h' q => ?_) (fun E h' q => ?_)
  · obtain ⟨θ', v', κ', a, b, rfl, d, h34, rfl, hre⟩ := q
    refine run_ok rkL_welder noCut 40 _ _ _ _ _ _ ?_
    refine And.intro (out_ok ho a b) ?_
    exact And.intro ⟨(show _ ≤ _ by decide), (show _ ≤ _ by decide)⟩ (hq_ret ho.1 h34 hre a b)
  · obtain ⟨θ', κ', a, b, hre, q⟩ := q
    rcases q with ⟨h34, rfl⟩ | ⟨h34, rfl⟩
    · refine ⟨13, hdL_welder_1, fun q => ?_⟩
      refine run_ok rkL_welder noCut 40 _ _ _ _ _ _ ?_
      exact And.intro ⟨(show _ ≤ _ by decide), (show _ ≤ _ by decide)⟩ (hq_ex h34 (by decide) hre a b)
    · refine ⟨17, hdL_welder_2, fun q => ?_⟩
      refine run_ok rkL_welder noCut 40 _ _ _ _ _ _ ?_
      exact And.intro ⟨(show _ ≤ _ by decide), (show _ ≤ _ by decide)⟩ (hq_ex h34 (by decide) hre a b)
theorem hdL_block_1 : HDL mL_block "java/lang/IndexOutOfBoundsException" 13 21 := ⟨[], _, _, "java/lang/IndexOutOfBoundsException", rfl, (fun z hz => nomatch hz), rfl, by decide, inT 330 (by decide +kernel) rfl, by decide +kernel, rfl⟩
theorem hdL_block_2 : HDL mL_block "java/lang/IllegalArgumentException" 13 25 := ⟨[_], _, _, "java/lang/IllegalArgumentException", rfl, (fun z hz => by
    simp only [List.mem_cons, List.not_mem_nil, or_false] at hz
    subst hz
    exact Or.inr ⟨by decide, "java/lang/IndexOutOfBoundsException", inT 330 (by decide +kernel) rfl, by decide +kernel⟩), rfl, by decide, inT 251 (by decide +kernel) rfl, by decide +kernel, rfl⟩
theorem hdL_block_3 : HDL mL_block "java/lang/IllegalStateException" 13 29 := ⟨[_, _], _, _, "java/lang/IllegalStateException", rfl, (fun z hz => by
    simp only [List.mem_cons, List.not_mem_nil, or_false] at hz
    rcases hz with rfl | rfl
    · exact Or.inr ⟨by decide, "java/lang/IndexOutOfBoundsException", inT 330 (by decide +kernel) rfl, by decide +kernel⟩
    · exact Or.inr ⟨by decide, "java/lang/IllegalArgumentException", inT 251 (by decide +kernel) rfl, by decide +kernel⟩), rfl, by decide, inT 367 (by decide +kernel) rfl, by decide +kernel, rfl⟩
set_option maxRecDepth 20000 in
theorem h_block {w : W0} {κ : AH} {σ : MS} {nb nw np : Nat} {wb : Nat → Nat} (h : RI κ κ σ nb nw np wb) (ho : gT κ (tM 41) = 13 ∧ gN κ (tM 41) = 1) {f l v0 t e g : Int32} : CYH w yL_block mL_block [.ref (tS 4), .int f, .int l, .int v0, .int t, .int e, .int g, .ref (tM 41)] κ (hQ κ (mBlock σ f l v0 t e g)) := by
  intro θ H hN hK
  have h4 : gT κ (tS 4) = 9 := h.2.1.1.t4
  have hb : gT H (θ (tS 4)) = 9 := (hN.1 (tS 4) (by rw [h4]; decide)).1.trans h4
  refine Ch_of mcL_block (Nat.le_of_ble_eq_true rfl) (fun v hv => by rcases List.mem_map.mp hv with ⟨x9, hx, rfl⟩; rw [cat_rn]; exact cat1 (as := [.ref (tS 4), .int f, .int l, .int v0, .int t, .int e, .int g, .ref (tM 41)]) rfl x9 hx) ?_
  refine run_ok rkL_block noCut 40 _ _ _ _ _ _ ?_
  refine x_callX (Cl := RX8) (as := [.int f, .int l, .int v0, .int t, .int e, .int g]) (by decide +kernel : decode cL_block 13 = .ok (.invokevirtual 23, 3)) lkL_23 mcX8_block ⟨by decide, by decide⟩ ciX8 rfl (Nat.le_of_ble_eq_true rfl) (by decide) (by decide) hb (k_block (κ0 := κ) h θ H hN (hK.sub (by simp))) (fun v h' q => ?_) (fun E h' q => ?_)
  · obtain ⟨θ', v', κ', a, b, rfl, d, h34, rfl, hre⟩ := q
    refine run_ok rkL_block noCut 40 _ _ _ _ _ _ ?_
    refine And.intro (out_ok ho a b) ?_
    exact And.intro ⟨(show _ ≤ _ by decide), (show _ ≤ _ by decide)⟩ (hq_ret ho.1 h34 hre a b)
  · obtain ⟨θ', κ', a, b, hre, q⟩ := q
    rcases q with ⟨h34, rfl⟩ | ⟨h34, rfl⟩ | ⟨h34, rfl⟩
    · refine ⟨21, hdL_block_1, fun q => ?_⟩
      refine run_ok rkL_block noCut 40 _ _ _ _ _ _ ?_
      exact And.intro ⟨(show _ ≤ _ by decide), (show _ ≤ _ by decide)⟩ (hq_ex h34 (by decide) hre a b)
    · refine ⟨25, hdL_block_2, fun q => ?_⟩
      refine run_ok rkL_block noCut 40 _ _ _ _ _ _ ?_
      exact And.intro ⟨(show _ ≤ _ by decide), (show _ ≤ _ by decide)⟩ (hq_ex h34 (by decide) hre a b)
    · refine ⟨29, hdL_block_3, fun q => ?_⟩
      refine run_ok rkL_block noCut 40 _ _ _ _ _ _ ?_
      exact And.intro ⟨(show _ ≤ _ by decide), (show _ ≤ _ by decide)⟩ (hq_ex h34 (by decide) hre a b)
theorem hdL_join_1 : HDL mL_join "java/lang/IndexOutOfBoundsException" 7 15 := ⟨[], _, _, "java/lang/IndexOutOfBoundsException", rfl, (fun z hz => nomatch hz), rfl, by decide, inT 330 (by decide +kernel) rfl, by decide +kernel, rfl⟩
theorem hdL_join_2 : HDL mL_join "java/lang/IllegalStateException" 7 19 := ⟨[_], _, _, "java/lang/IllegalStateException", rfl, (fun z hz => by
    simp only [List.mem_cons, List.not_mem_nil, or_false] at hz
    subst hz
    exact Or.inr ⟨by decide, "java/lang/IndexOutOfBoundsException", inT 330 (by decide +kernel) rfl, by decide +kernel⟩), rfl, by decide, inT 367 (by decide +kernel) rfl, by decide +kernel, rfl⟩
set_option maxRecDepth 20000 in
theorem h_join {w : W0} {κ : AH} {σ : MS} {nb nw np : Nat} {wb : Nat → Nat} (h : RI κ κ σ nb nw np wb) (ho : gT κ (tM 41) = 13 ∧ gN κ (tM 41) = 1) {x y z : Int32} : CYH w yL_join mL_join [.ref (tS 4), .int x, .int y, .int z, .ref (tM 41)] κ (hQ κ (mJoin σ x y z)) := by
  intro θ H hN hK
  have h4 : gT κ (tS 4) = 9 := h.2.1.1.t4
  have hb : gT H (θ (tS 4)) = 9 := (hN.1 (tS 4) (by rw [h4]; decide)).1.trans h4
  refine Ch_of mcL_join (Nat.le_of_ble_eq_true rfl) (fun v hv => by rcases List.mem_map.mp hv with ⟨x9, hx, rfl⟩; rw [cat_rn]; exact cat1 (as := [.ref (tS 4), .int x, .int y, .int z, .ref (tM 41)]) rfl x9 hx) ?_
  refine run_ok rkL_join noCut 40 _ _ _ _ _ _ ?_
  refine x_callX (Cl := RX8) (as := [.int x, .int y, .int z]) (by decide +kernel : decode cL_join 7 = .ok (.invokevirtual 29, 3)) lkL_29 mcX8_join ⟨by decide, by decide⟩ ciX8 rfl (Nat.le_of_ble_eq_true rfl) (by decide) (by decide) hb (k_join (κ0 := κ) h θ H hN (hK.sub (by simp))) (fun v h' q => ?_) (fun E h' q => ?_)
  · obtain ⟨θ', v', κ', a, b, rfl, d, h34, rfl, hre⟩ := q
    refine run_ok rkL_join noCut 40 _ _ _ _ _ _ ?_
    refine And.intro (out_ok ho a b) ?_
    exact And.intro ⟨(show _ ≤ _ by decide), (show _ ≤ _ by decide)⟩ (hq_ret ho.1 h34 hre a b)
  · obtain ⟨θ', κ', a, b, hre, q⟩ := q
    rcases q with ⟨h34, rfl⟩ | ⟨h34, rfl⟩
    · refine ⟨15, hdL_join_1, fun q => ?_⟩
      refine run_ok rkL_join noCut 40 _ _ _ _ _ _ ?_
      exact And.intro ⟨(show _ ≤ _ by decide), (show _ ≤ _ by decide)⟩ (hq_ex h34 (by decide) hre a b)
    · refine ⟨19, hdL_join_2, fun q => ?_⟩
      refine run_ok rkL_join noCut 40 _ _ _ _ _ _ ?_
      exact And.intro ⟨(show _ ≤ _ by decide), (show _ ≤ _ by decide)⟩ (hq_ex h34 (by decide) hre a b)
theorem hdL_erect_1 : HDL mL_erect "java/lang/IndexOutOfBoundsException" 5 13 := ⟨[], _, _, "java/lang/IndexOutOfBoundsException", rfl, (fun z hz => nomatch hz), rfl, by decide, inT 330 (by decide +kernel) rfl, by decide +kernel, rfl⟩
theorem hdL_erect_2 : HDL mL_erect "java/lang/IllegalStateException" 5 17 := ⟨[_], _, _, "java/lang/IllegalStateException", rfl, (fun z hz => by
    simp only [List.mem_cons, List.not_mem_nil, or_false] at hz
    subst hz
    exact Or.inr ⟨by decide, "java/lang/IndexOutOfBoundsException", inT 330 (by decide +kernel) rfl, by decide +kernel⟩), rfl, by decide, inT 367 (by decide +kernel) rfl, by decide +kernel, rfl⟩
set_option maxRecDepth 20000 in
theorem h_erect {w : W0} {κ : AH} {σ : MS} {nb nw np : Nat} {wb : Nat → Nat} (h : RI κ κ σ nb nw np wb) (ho : gT κ (tM 41) = 13 ∧ gN κ (tM 41) = 1) {x z : Int32} : CYH w yL_erect mL_erect [.ref (tS 4), .int x, .int z, .ref (tM 41)] κ (hQ κ (mEr σ x z)) := by
  intro θ H hN hK
  have h4 : gT κ (tS 4) = 9 := h.2.1.1.t4
  have hb : gT H (θ (tS 4)) = 9 := (hN.1 (tS 4) (by rw [h4]; decide)).1.trans h4
  refine Ch_of mcL_erect (Nat.le_of_ble_eq_true rfl) (fun v hv => by rcases List.mem_map.mp hv with ⟨x9, hx, rfl⟩; rw [cat_rn]; exact cat1 (as := [.ref (tS 4), .int x, .int z, .ref (tM 41)]) rfl x9 hx) ?_
  refine run_ok rkL_erect noCut 40 _ _ _ _ _ _ ?_
  refine x_callX (Cl := RX8) (as := [.int x, .int z]) (by decide +kernel : decode cL_erect 5 = .ok (.invokevirtual 33, 3)) lkL_33 mcX8_erect ⟨by decide, by decide⟩ ciX8 rfl (Nat.le_of_ble_eq_true rfl) (by decide) (by decide) hb (k_erect (κ0 := κ) h θ H hN (hK.sub (by simp))) (fun v h' q => ?_) (fun E h' q => ?_)
  · obtain ⟨θ', v', κ', a, b, rfl, d, h34, rfl, hre⟩ := q
    refine run_ok rkL_erect noCut 40 _ _ _ _ _ _ ?_
    refine And.intro (out_ok ho a b) ?_
    exact And.intro ⟨(show _ ≤ _ by decide), (show _ ≤ _ by decide)⟩ (hq_ret ho.1 h34 hre a b)
  · obtain ⟨θ', κ', a, b, hre, q⟩ := q
    rcases q with ⟨h34, rfl⟩ | ⟨h34, rfl⟩
    · refine ⟨13, hdL_erect_1, fun q => ?_⟩
      refine run_ok rkL_erect noCut 40 _ _ _ _ _ _ ?_
      exact And.intro ⟨(show _ ≤ _ by decide), (show _ ≤ _ by decide)⟩ (hq_ex h34 (by decide) hre a b)
    · refine ⟨17, hdL_erect_2, fun q => ?_⟩
      refine run_ok rkL_erect noCut 40 _ _ _ _ _ _ ?_
      exact And.intro ⟨(show _ ≤ _ by decide), (show _ ≤ _ by decide)⟩ (hq_ex h34 (by decide) hre a b)
theorem hdL_scrap_1 : HDL mL_scrap "java/lang/IndexOutOfBoundsException" 4 12 := ⟨[], _, _, "java/lang/IndexOutOfBoundsException", rfl, (fun z hz => nomatch hz), rfl, by decide, inT 330 (by decide +kernel) rfl, by decide +kernel, rfl⟩
theorem hdL_scrap_2 : HDL mL_scrap "java/lang/IllegalStateException" 4 15 := ⟨[_], _, _, "java/lang/IllegalStateException", rfl, (fun z hz => by
    simp only [List.mem_cons, List.not_mem_nil, or_false] at hz
    subst hz
    exact Or.inr ⟨by decide, "java/lang/IndexOutOfBoundsException", inT 330 (by decide +kernel) rfl, by decide +kernel⟩), rfl, by decide, inT 367 (by decide +kernel) rfl, by decide +kernel, rfl⟩
set_option maxRecDepth 20000 in
theorem h_scrap {w : W0} {κ : AH} {σ : MS} {nb nw np : Nat} {wb : Nat → Nat} (h : RI κ κ σ nb nw np wb) (ho : gT κ (tM 41) = 13 ∧ gN κ (tM 41) = 1) {b : Int32} : CYH w yL_scrap mL_scrap [.ref (tS 4), .int b, .ref (tM 41)] κ (hQ κ (mScr σ nb b)) := by
  intro θ H hN hK
  have h4 : gT κ (tS 4) = 9 := h.2.1.1.t4
  have hb : gT H (θ (tS 4)) = 9 := (hN.1 (tS 4) (by rw [h4]; decide)).1.trans h4
  refine Ch_of mcL_scrap (Nat.le_of_ble_eq_true rfl) (fun v hv => by rcases List.mem_map.mp hv with ⟨x9, hx, rfl⟩; rw [cat_rn]; exact cat1 (as := [.ref (tS 4), .int b, .ref (tM 41)]) rfl x9 hx) ?_
  refine run_ok rkL_scrap noCut 40 _ _ _ _ _ _ ?_
  refine x_callX (Cl := RX8) (as := [.int b]) (by decide +kernel : decode cL_scrap 4 = .ok (.invokevirtual 36, 3)) lkL_36 mcX8_scrap ⟨by decide, by decide⟩ ciX8 rfl (Nat.le_of_ble_eq_true rfl) (by decide) (by decide) hb (k_scrap (κ0 := κ) h θ H hN (hK.sub (by simp))) (fun v h' q => ?_) (fun E h' q => ?_)
  · obtain ⟨θ', v', κ', a, b, rfl, d, h34, rfl, hre⟩ := q
    refine run_ok rkL_scrap noCut 40 _ _ _ _ _ _ ?_
    refine And.intro (out_ok ho a b) ?_
    exact And.intro ⟨(show _ ≤ _ by decide), (show _ ≤ _ by decide)⟩ (hq_ret ho.1 h34 hre a b)
  · obtain ⟨θ', κ', a, b, hre, q⟩ := q
    rcases q with ⟨h34, rfl⟩ | ⟨h34, rfl⟩
    · refine ⟨12, hdL_scrap_1, fun q => ?_⟩
      refine run_ok rkL_scrap noCut 40 _ _ _ _ _ _ ?_
      exact And.intro ⟨(show _ ≤ _ by decide), (show _ ≤ _ by decide)⟩ (hq_ex h34 (by decide) hre a b)
    · refine ⟨15, hdL_scrap_2, fun q => ?_⟩
      refine run_ok rkL_scrap noCut 40 _ _ _ _ _ _ ?_
      exact And.intro ⟨(show _ ≤ _ by decide), (show _ ≤ _ by decide)⟩ (hq_ex h34 (by decide) hre a b)
theorem hdL_test_1 : HDL mL_test "java/lang/IndexOutOfBoundsException" 4 12 := ⟨[], _, _, "java/lang/IndexOutOfBoundsException", rfl, (fun z hz => nomatch hz), rfl, by decide, inT 330 (by decide +kernel) rfl, by decide +kernel, rfl⟩
theorem hdL_test_2 : HDL mL_test "java/lang/IllegalStateException" 4 15 := ⟨[_], _, _, "java/lang/IllegalStateException", rfl, (fun z hz => by
    simp only [List.mem_cons, List.not_mem_nil, or_false] at hz
    subst hz
    exact Or.inr ⟨by decide, "java/lang/IndexOutOfBoundsException", inT 330 (by decide +kernel) rfl, by decide +kernel⟩), rfl, by decide, inT 367 (by decide +kernel) rfl, by decide +kernel, rfl⟩
set_option maxRecDepth 20000 in
theorem h_test {w : W0} {κ : AH} {σ : MS} {nb nw np : Nat} {wb : Nat → Nat} (h : RI κ κ σ nb nw np wb) (ho : gT κ (tM 41) = 13 ∧ gN κ (tM 41) = 1) {b : Int32} : CYH w yL_test mL_test [.ref (tS 4), .int b, .ref (tM 41)] κ (hQ κ (mTest σ b)) := by
  intro θ H hN hK
  have h4 : gT κ (tS 4) = 9 := h.2.1.1.t4
  have hb : gT H (θ (tS 4)) = 9 := (hN.1 (tS 4) (by rw [h4]; decide)).1.trans h4
  refine Ch_of mcL_test (Nat.le_of_ble_eq_true rfl) (fun v hv => by rcases List.mem_map.mp hv with ⟨x9, hx, rfl⟩; rw [cat_rn]; exact cat1 (as := [.ref (tS 4), .int b, .ref (tM 41)]) rfl x9 hx) ?_
  refine run_ok rkL_test noCut 40 _ _ _ _ _ _ ?_
  refine x_callX (Cl := RX8) (as := [.int b]) (by decide +kernel : decode cL_test 4 = .ok (.invokevirtual 40, 3)) lkL_40 mcX8_test ⟨by decide, by decide⟩ ciX8 rfl (Nat.le_of_ble_eq_true rfl) (by decide) (by decide) hb (k_test (κ0 := κ) h θ H hN (hK.sub (by simp))) (fun v h' q => ?_) (fun E h' q => ?_)
  · obtain ⟨θ', v', κ', a, b, rfl, d, h34, rfl, hre⟩ := q
    refine run_ok rkL_test noCut 40 _ _ _ _ _ _ ?_
    refine And.intro (out_ok ho a b) ?_
    exact And.intro ⟨(show _ ≤ _ by decide), (show _ ≤ _ by decide)⟩ (hq_ret ho.1 h34 hre a b)
  · obtain ⟨θ', κ', a, b, hre, q⟩ := q
    rcases q with ⟨h34, rfl⟩ | ⟨h34, rfl⟩
    · refine ⟨12, hdL_test_1, fun q => ?_⟩
      refine run_ok rkL_test noCut 40 _ _ _ _ _ _ ?_
      exact And.intro ⟨(show _ ≤ _ by decide), (show _ ≤ _ by decide)⟩ (hq_ex h34 (by decide) hre a b)
    · refine ⟨15, hdL_test_2, fun q => ?_⟩
      refine run_ok rkL_test noCut 40 _ _ _ _ _ _ ?_
      exact And.intro ⟨(show _ ≤ _ by decide), (show _ ≤ _ by decide)⟩ (hq_ex h34 (by decide) hre a b)
theorem hdL_repair_1 : HDL mL_repair "java/lang/IndexOutOfBoundsException" 5 13 := ⟨[], _, _, "java/lang/IndexOutOfBoundsException", rfl, (fun z hz => nomatch hz), rfl, by decide, inT 330 (by decide +kernel) rfl, by decide +kernel, rfl⟩
theorem hdL_repair_2 : HDL mL_repair "java/lang/IllegalStateException" 5 17 := ⟨[_], _, _, "java/lang/IllegalStateException", rfl, (fun z hz => by
    simp only [List.mem_cons, List.not_mem_nil, or_false] at hz
    subst hz
    exact Or.inr ⟨by decide, "java/lang/IndexOutOfBoundsException", inT 330 (by decide +kernel) rfl, by decide +kernel⟩), rfl, by decide, inT 367 (by decide +kernel) rfl, by decide +kernel, rfl⟩
set_option maxRecDepth 20000 in
theorem h_repair {w : W0} {κ : AH} {σ : MS} {nb nw np : Nat} {wb : Nat → Nat} (h : RI κ κ σ nb nw np wb) (ho : gT κ (tM 41) = 13 ∧ gN κ (tM 41) = 1) {b y : Int32} : CYH w yL_repair mL_repair [.ref (tS 4), .int b, .int y, .ref (tM 41)] κ (hQ κ (mRep σ b y)) := by
  intro θ H hN hK
  have h4 : gT κ (tS 4) = 9 := h.2.1.1.t4
  have hb : gT H (θ (tS 4)) = 9 := (hN.1 (tS 4) (by rw [h4]; decide)).1.trans h4
  refine Ch_of mcL_repair (Nat.le_of_ble_eq_true rfl) (fun v hv => by rcases List.mem_map.mp hv with ⟨x9, hx, rfl⟩; rw [cat_rn]; exact cat1 (as := [.ref (tS 4), .int b, .int y, .ref (tM 41)]) rfl x9 hx) ?_
  refine run_ok rkL_repair noCut 40 _ _ _ _ _ _ ?_
  refine x_callX (Cl := RX8) (as := [.int b, .int y]) (by decide +kernel : decode cL_repair 5 = .ok (.invokevirtual 43, 3)) lkL_43 mcX8_repair ⟨by decide, by decide⟩ ciX8 rfl (Nat.le_of_ble_eq_true rfl) (by decide) (by decide) hb (k_repair (κ0 := κ) h θ H hN (hK.sub (by simp))) (fun v h' q => ?_) (fun E h' q => ?_)
  · obtain ⟨θ', v', κ', a, b, rfl, d, h34, rfl, hre⟩ := q
    refine run_ok rkL_repair noCut 40 _ _ _ _ _ _ ?_
    refine And.intro (out_ok ho a b) ?_
    exact And.intro ⟨(show _ ≤ _ by decide), (show _ ≤ _ by decide)⟩ (hq_ret ho.1 h34 hre a b)
  · obtain ⟨θ', κ', a, b, hre, q⟩ := q
    rcases q with ⟨h34, rfl⟩ | ⟨h34, rfl⟩
    · refine ⟨13, hdL_repair_1, fun q => ?_⟩
      refine run_ok rkL_repair noCut 40 _ _ _ _ _ _ ?_
      exact And.intro ⟨(show _ ≤ _ by decide), (show _ ≤ _ by decide)⟩ (hq_ex h34 (by decide) hre a b)
    · refine ⟨17, hdL_repair_2, fun q => ?_⟩
      refine run_ok rkL_repair noCut 40 _ _ _ _ _ _ ?_
      exact And.intro ⟨(show _ ≤ _ by decide), (show _ ≤ _ by decide)⟩ (hq_ex h34 (by decide) hre a b)
theorem hdL_hole_1 : HDL mL_hole "java/lang/IndexOutOfBoundsException" 5 13 := ⟨[], _, _, "java/lang/IndexOutOfBoundsException", rfl, (fun z hz => nomatch hz), rfl, by decide, inT 330 (by decide +kernel) rfl, by decide +kernel, rfl⟩
theorem hdL_hole_2 : HDL mL_hole "java/lang/IllegalStateException" 5 17 := ⟨[_], _, _, "java/lang/IllegalStateException", rfl, (fun z hz => by
    simp only [List.mem_cons, List.not_mem_nil, or_false] at hz
    subst hz
    exact Or.inr ⟨by decide, "java/lang/IndexOutOfBoundsException", inT 330 (by decide +kernel) rfl, by decide +kernel⟩), rfl, by decide, inT 367 (by decide +kernel) rfl, by decide +kernel, rfl⟩
set_option maxRecDepth 20000 in
theorem h_hole {w : W0} {κ : AH} {σ : MS} {nb nw np : Nat} {wb : Nat → Nat} (h : RI κ κ σ nb nw np wb) (ho : gT κ (tM 41) = 13 ∧ gN κ (tM 41) = 1) {x u : Int32} : CYH w yL_hole mL_hole [.ref (tS 4), .int x, .int u, .ref (tM 41)] κ (hQ κ (mHole σ x u)) := by
  intro θ H hN hK
  have h4 : gT κ (tS 4) = 9 := h.2.1.1.t4
  have hb : gT H (θ (tS 4)) = 9 := (hN.1 (tS 4) (by rw [h4]; decide)).1.trans h4
  refine Ch_of mcL_hole (Nat.le_of_ble_eq_true rfl) (fun v hv => by rcases List.mem_map.mp hv with ⟨x9, hx, rfl⟩; rw [cat_rn]; exact cat1 (as := [.ref (tS 4), .int x, .int u, .ref (tM 41)]) rfl x9 hx) ?_
  refine run_ok rkL_hole noCut 40 _ _ _ _ _ _ ?_
  refine x_callX (Cl := RX8) (as := [.int x, .int u]) (by decide +kernel : decode cL_hole 5 = .ok (.invokevirtual 46, 3)) lkL_46 mcX8_hole ⟨by decide, by decide⟩ ciX8 rfl (Nat.le_of_ble_eq_true rfl) (by decide) (by decide) hb (k_hole (κ0 := κ) h θ H hN (hK.sub (by simp))) (fun v h' q => ?_) (fun E h' q => ?_)
  · obtain ⟨θ', v', κ', a, b, rfl, d, h34, rfl, hre⟩ := q
    refine run_ok rkL_hole noCut 40 _ _ _ _ _ _ ?_
    refine And.intro (out_ok ho a b) ?_
    exact And.intro ⟨(show _ ≤ _ by decide), (show _ ≤ _ by decide)⟩ (hq_ret ho.1 h34 hre a b)
  · obtain ⟨θ', κ', a, b, hre, q⟩ := q
    rcases q with ⟨h34, rfl⟩ | ⟨h34, rfl⟩
    · refine ⟨13, hdL_hole_1, fun q => ?_⟩
      refine run_ok rkL_hole noCut 40 _ _ _ _ _ _ ?_
      exact And.intro ⟨(show _ ≤ _ by decide), (show _ ≤ _ by decide)⟩ (hq_ex h34 (by decide) hre a b)
    · refine ⟨17, hdL_hole_2, fun q => ?_⟩
      refine run_ok rkL_hole noCut 40 _ _ _ _ _ _ ?_
      exact And.intro ⟨(show _ ≤ _ by decide), (show _ ≤ _ by decide)⟩ (hq_ex h34 (by decide) hre a b)
theorem hdL_paint_1 : HDL mL_paint "java/lang/IndexOutOfBoundsException" 4 12 := ⟨[], _, _, "java/lang/IndexOutOfBoundsException", rfl, (fun z hz => nomatch hz), rfl, by decide, inT 330 (by decide +kernel) rfl, by decide +kernel, rfl⟩
theorem hdL_paint_2 : HDL mL_paint "java/lang/IllegalStateException" 4 15 := ⟨[_], _, _, "java/lang/IllegalStateException", rfl, (fun z hz => by
    simp only [List.mem_cons, List.not_mem_nil, or_false] at hz
    subst hz
    exact Or.inr ⟨by decide, "java/lang/IndexOutOfBoundsException", inT 330 (by decide +kernel) rfl, by decide +kernel⟩), rfl, by decide, inT 367 (by decide +kernel) rfl, by decide +kernel, rfl⟩
set_option maxRecDepth 20000 in
theorem h_paint {w : W0} {κ : AH} {σ : MS} {nb nw np : Nat} {wb : Nat → Nat} (h : RI κ κ σ nb nw np wb) (ho : gT κ (tM 41) = 13 ∧ gN κ (tM 41) = 1) {x : Int32} : CYH w yL_paint mL_paint [.ref (tS 4), .int x, .ref (tM 41)] κ (hQ κ (mPai σ x)) := by
  intro θ H hN hK
  have h4 : gT κ (tS 4) = 9 := h.2.1.1.t4
  have hb : gT H (θ (tS 4)) = 9 := (hN.1 (tS 4) (by rw [h4]; decide)).1.trans h4
  refine Ch_of mcL_paint (Nat.le_of_ble_eq_true rfl) (fun v hv => by rcases List.mem_map.mp hv with ⟨x9, hx, rfl⟩; rw [cat_rn]; exact cat1 (as := [.ref (tS 4), .int x, .ref (tM 41)]) rfl x9 hx) ?_
  refine run_ok rkL_paint noCut 40 _ _ _ _ _ _ ?_
  refine x_callX (Cl := RX8) (as := [.int x]) (by decide +kernel : decode cL_paint 4 = .ok (.invokevirtual 50, 3)) lkL_50 mcX8_paint ⟨by decide, by decide⟩ ciX8 rfl (Nat.le_of_ble_eq_true rfl) (by decide) (by decide) hb (k_paint (κ0 := κ) h θ H hN (hK.sub (by simp))) (fun v h' q => ?_) (fun E h' q => ?_)
  · obtain ⟨θ', v', κ', a, b, rfl, d, h34, rfl, hre⟩ := q
    refine run_ok rkL_paint noCut 40 _ _ _ _ _ _ ?_
    refine And.intro (out_ok ho a b) ?_
    exact And.intro ⟨(show _ ≤ _ by decide), (show _ ≤ _ by decide)⟩ (hq_ret ho.1 h34 hre a b)
  · obtain ⟨θ', κ', a, b, hre, q⟩ := q
    rcases q with ⟨h34, rfl⟩ | ⟨h34, rfl⟩
    · refine ⟨12, hdL_paint_1, fun q => ?_⟩
      refine run_ok rkL_paint noCut 40 _ _ _ _ _ _ ?_
      exact And.intro ⟨(show _ ≤ _ by decide), (show _ ≤ _ by decide)⟩ (hq_ex h34 (by decide) hre a b)
    · refine ⟨15, hdL_paint_2, fun q => ?_⟩
      refine run_ok rkL_paint noCut 40 _ _ _ _ _ _ ?_
      exact And.intro ⟨(show _ ≤ _ by decide), (show _ ≤ _ by decide)⟩ (hq_ex h34 (by decide) hre a b)
theorem hdL_fit_1 : HDL mL_fit "java/lang/IndexOutOfBoundsException" 5 13 := ⟨[], _, _, "java/lang/IndexOutOfBoundsException", rfl, (fun z hz => nomatch hz), rfl, by decide, inT 330 (by decide +kernel) rfl, by decide +kernel, rfl⟩
theorem hdL_fit_2 : HDL mL_fit "java/lang/IllegalArgumentException" 5 17 := ⟨[_], _, _, "java/lang/IllegalArgumentException", rfl, (fun z hz => by
    simp only [List.mem_cons, List.not_mem_nil, or_false] at hz
    subst hz
    exact Or.inr ⟨by decide, "java/lang/IndexOutOfBoundsException", inT 330 (by decide +kernel) rfl, by decide +kernel⟩), rfl, by decide, inT 251 (by decide +kernel) rfl, by decide +kernel, rfl⟩
theorem hdL_fit_3 : HDL mL_fit "java/lang/IllegalStateException" 5 21 := ⟨[_, _], _, _, "java/lang/IllegalStateException", rfl, (fun z hz => by
    simp only [List.mem_cons, List.not_mem_nil, or_false] at hz
    rcases hz with rfl | rfl
    · exact Or.inr ⟨by decide, "java/lang/IndexOutOfBoundsException", inT 330 (by decide +kernel) rfl, by decide +kernel⟩
    · exact Or.inr ⟨by decide, "java/lang/IllegalArgumentException", inT 251 (by decide +kernel) rfl, by decide +kernel⟩), rfl, by decide, inT 367 (by decide +kernel) rfl, by decide +kernel, rfl⟩
set_option maxRecDepth 20000 in
theorem h_fit {w : W0} {κ : AH} {σ : MS} {nb nw np : Nat} {wb : Nat → Nat} (h : RI κ κ σ nb nw np wb) (ho : gT κ (tM 41) = 13 ∧ gN κ (tM 41) = 1) {x t : Int32} : CYH w yL_fit mL_fit [.ref (tS 4), .int x, .int t, .ref (tM 41)] κ (hQ κ (mFit σ x t)) := by
  intro θ H hN hK
  have h4 : gT κ (tS 4) = 9 := h.2.1.1.t4
  have hb : gT H (θ (tS 4)) = 9 := (hN.1 (tS 4) (by rw [h4]; decide)).1.trans h4
  refine Ch_of mcL_fit (Nat.le_of_ble_eq_true rfl) (fun v hv => by rcases List.mem_map.mp hv with ⟨x9, hx, rfl⟩; rw [cat_rn]; exact cat1 (as := [.ref (tS 4), .int x, .int t, .ref (tM 41)]) rfl x9 hx) ?_
  refine run_ok rkL_fit noCut 40 _ _ _ _ _ _ ?_
  refine x_callX (Cl := RX8) (as := [.int x, .int t]) (by decide +kernel : decode cL_fit 5 = .ok (.invokevirtual 53, 3)) lkL_53 mcX8_fit ⟨by decide, by decide⟩ ciX8 rfl (Nat.le_of_ble_eq_true rfl) (by decide) (by decide) hb (k_fit (κ0 := κ) h θ H hN (hK.sub (by simp))) (fun v h' q => ?_) (fun E h' q => ?_)
  · obtain ⟨θ', v', κ', a, b, rfl, d, h34, rfl, hre⟩ := q
    refine run_ok rkL_fit noCut 40 _ _ _ _ _ _ ?_
    refine And.intro (out_ok ho a b) ?_
    exact And.intro ⟨(show _ ≤ _ by decide), (show _ ≤ _ by decide)⟩ (hq_ret ho.1 h34 hre a b)
  · obtain ⟨θ', κ', a, b, hre, q⟩ := q
    rcases q with ⟨h34, rfl⟩ | ⟨h34, rfl⟩ | ⟨h34, rfl⟩
    · refine ⟨13, hdL_fit_1, fun q => ?_⟩
      refine run_ok rkL_fit noCut 40 _ _ _ _ _ _ ?_
      exact And.intro ⟨(show _ ≤ _ by decide), (show _ ≤ _ by decide)⟩ (hq_ex h34 (by decide) hre a b)
    · refine ⟨17, hdL_fit_2, fun q => ?_⟩
      refine run_ok rkL_fit noCut 40 _ _ _ _ _ _ ?_
      exact And.intro ⟨(show _ ≤ _ by decide), (show _ ≤ _ by decide)⟩ (hq_ex h34 (by decide) hre a b)
    · refine ⟨21, hdL_fit_3, fun q => ?_⟩
      refine run_ok rkL_fit noCut 40 _ _ _ _ _ _ ?_
      exact And.intro ⟨(show _ ≤ _ by decide), (show _ ≤ _ by decide)⟩ (hq_ex h34 (by decide) hre a b)
theorem hdL_pipe_1 : HDL mL_pipe "java/lang/IndexOutOfBoundsException" 5 13 := ⟨[], _, _, "java/lang/IndexOutOfBoundsException", rfl, (fun z hz => nomatch hz), rfl, by decide, inT 330 (by decide +kernel) rfl, by decide +kernel, rfl⟩
theorem hdL_pipe_2 : HDL mL_pipe "java/lang/IllegalArgumentException" 5 17 := ⟨[_], _, _, "java/lang/IllegalArgumentException", rfl, (fun z hz => by
    simp only [List.mem_cons, List.not_mem_nil, or_false] at hz
    subst hz
    exact Or.inr ⟨by decide, "java/lang/IndexOutOfBoundsException", inT 330 (by decide +kernel) rfl, by decide +kernel⟩), rfl, by decide, inT 251 (by decide +kernel) rfl, by decide +kernel, rfl⟩
theorem hdL_pipe_3 : HDL mL_pipe "java/lang/IllegalStateException" 5 21 := ⟨[_, _], _, _, "java/lang/IllegalStateException", rfl, (fun z hz => by
    simp only [List.mem_cons, List.not_mem_nil, or_false] at hz
    rcases hz with rfl | rfl
    · exact Or.inr ⟨by decide, "java/lang/IndexOutOfBoundsException", inT 330 (by decide +kernel) rfl, by decide +kernel⟩
    · exact Or.inr ⟨by decide, "java/lang/IllegalArgumentException", inT 251 (by decide +kernel) rfl, by decide +kernel⟩), rfl, by decide, inT 367 (by decide +kernel) rfl, by decide +kernel, rfl⟩
set_option maxRecDepth 20000 in
theorem h_pipe {w : W0} {κ : AH} {σ : MS} {nb nw np : Nat} {wb : Nat → Nat} (h : RI κ κ σ nb nw np wb) (ho : gT κ (tM 41) = 13 ∧ gN κ (tM 41) = 1) {x y : Int32} : CYH w yL_pipe mL_pipe [.ref (tS 4), .int x, .int y, .ref (tM 41)] κ (hQ κ (mPip σ x y)) := by
  intro θ H hN hK
  have h4 : gT κ (tS 4) = 9 := h.2.1.1.t4
  have hb : gT H (θ (tS 4)) = 9 := (hN.1 (tS 4) (by rw [h4]; decide)).1.trans h4
  refine Ch_of mcL_pipe (Nat.le_of_ble_eq_true rfl) (fun v hv => by rcases List.mem_map.mp hv with ⟨x9, hx, rfl⟩; rw [cat_rn]; exact cat1 (as := [.ref (tS 4), .int x, .int y, .ref (tM 41)]) rfl x9 hx) ?_
  refine run_ok rkL_pipe noCut 40 _ _ _ _ _ _ ?_
  refine x_callX (Cl := RX8) (as := [.int x, .int y]) (by decide +kernel : decode cL_pipe 5 = .ok (.invokevirtual 56, 3)) lkL_56 mcX8_pipe ⟨by decide, by decide⟩ ciX8 rfl (Nat.le_of_ble_eq_true rfl) (by decide) (by decide) hb (k_pipe (κ0 := κ) h θ H hN (hK.sub (by simp))) (fun v h' q => ?_) (fun E h' q => ?_)
  · obtain ⟨θ', v', κ', a, b, rfl, d, h34, rfl, hre⟩ := q
    refine run_ok rkL_pipe noCut 40 _ _ _ _ _ _ ?_
    refine And.intro (out_ok ho a b) ?_
    exact And.intro ⟨(show _ ≤ _ by decide), (show _ ≤ _ by decide)⟩ (hq_ret ho.1 h34 hre a b)
  · obtain ⟨θ', κ', a, b, hre, q⟩ := q
    rcases q with ⟨h34, rfl⟩ | ⟨h34, rfl⟩ | ⟨h34, rfl⟩
    · refine ⟨13, hdL_pipe_1, fun q => ?_⟩
      refine run_ok rkL_pipe noCut 40 _ _ _ _ _ _ ?_
      exact And.intro ⟨(show _ ≤ _ by decide), (show _ ≤ _ by decide)⟩ (hq_ex h34 (by decide) hre a b)
    · refine ⟨17, hdL_pipe_2, fun q => ?_⟩
      refine run_ok rkL_pipe noCut 40 _ _ _ _ _ _ ?_
      exact And.intro ⟨(show _ ≤ _ by decide), (show _ ≤ _ by decide)⟩ (hq_ex h34 (by decide) hre a b)
    · refine ⟨21, hdL_pipe_3, fun q => ?_⟩
      refine run_ok rkL_pipe noCut 40 _ _ _ _ _ _ ?_
      exact And.intro ⟨(show _ ≤ _ by decide), (show _ ≤ _ by decide)⟩ (hq_ex h34 (by decide) hre a b)
theorem hdL_launch_1 : HDL mL_launch "java/lang/IllegalArgumentException" 4 12 := ⟨[], _, _, "java/lang/IllegalArgumentException", rfl, (fun z hz => nomatch hz), rfl, by decide, inT 251 (by decide +kernel) rfl, by decide +kernel, rfl⟩
theorem hdL_launch_2 : HDL mL_launch "java/lang/IllegalStateException" 4 15 := ⟨[_], _, _, "java/lang/IllegalStateException", rfl, (fun z hz => by
    simp only [List.mem_cons, List.not_mem_nil, or_false] at hz
    subst hz
    exact Or.inr ⟨by decide, "java/lang/IllegalArgumentException", inT 251 (by decide +kernel) rfl, by decide +kernel⟩), rfl, by decide, inT 367 (by decide +kernel) rfl, by decide +kernel, rfl⟩
set_option maxRecDepth 20000 in
theorem h_launch {w : W0} {κ : AH} {σ : MS} {nb nw np : Nat} {wb : Nat → Nat} (h : RI κ κ σ nb nw np wb) (ho : gT κ (tM 41) = 13 ∧ gN κ (tM 41) = 1) {t : Int32} : CYH w yL_launch mL_launch [.ref (tS 4), .int t, .ref (tM 41)] κ (hQ κ (mLau σ nb nw t)) := by
  intro θ H hN hK
  have h4 : gT κ (tS 4) = 9 := h.2.1.1.t4
  have hb : gT H (θ (tS 4)) = 9 := (hN.1 (tS 4) (by rw [h4]; decide)).1.trans h4
  refine Ch_of mcL_launch (Nat.le_of_ble_eq_true rfl) (fun v hv => by rcases List.mem_map.mp hv with ⟨x9, hx, rfl⟩; rw [cat_rn]; exact cat1 (as := [.ref (tS 4), .int t, .ref (tM 41)]) rfl x9 hx) ?_
  refine run_ok rkL_launch noCut 40 _ _ _ _ _ _ ?_
  refine x_callX (Cl := RX8) (as := [.int t]) (by decide +kernel : decode cL_launch 4 = .ok (.invokevirtual 59, 3)) lkL_59 mcX8_launch ⟨by decide, by decide⟩ ciX8 rfl (Nat.le_of_ble_eq_true rfl) (by decide) (by decide) hb (k_launch (κ0 := κ) h θ H hN (hK.sub (by simp))) (fun v h' q => ?_) (fun E h' q => ?_)
  · obtain ⟨θ', v', κ', a, b, rfl, d, h34, rfl, hre⟩ := q
    refine run_ok rkL_launch noCut 40 _ _ _ _ _ _ ?_
    refine And.intro (out_ok ho a b) ?_
    exact And.intro ⟨(show _ ≤ _ by decide), (show _ ≤ _ by decide)⟩ (hq_ret ho.1 h34 hre a b)
  · obtain ⟨θ', κ', a, b, hre, q⟩ := q
    rcases q with ⟨h34, rfl⟩ | ⟨h34, rfl⟩
    · refine ⟨12, hdL_launch_1, fun q => ?_⟩
      refine run_ok rkL_launch noCut 40 _ _ _ _ _ _ ?_
      exact And.intro ⟨(show _ ≤ _ by decide), (show _ ≤ _ by decide)⟩ (hq_ex h34 (by decide) hre a b)
    · refine ⟨15, hdL_launch_2, fun q => ?_⟩
      refine run_ok rkL_launch noCut 40 _ _ _ _ _ _ ?_
      exact And.intro ⟨(show _ ≤ _ by decide), (show _ ≤ _ by decide)⟩ (hq_ex h34 (by decide) hre a b)
theorem hdL_whyNot_1 : HDL mL_whyNot "java/lang/IndexOutOfBoundsException" 4 12 := ⟨[], _, _, "java/lang/IndexOutOfBoundsException", rfl, (fun z hz => nomatch hz), rfl, by decide, inT 330 (by decide +kernel) rfl, by decide +kernel, rfl⟩
set_option maxRecDepth 20000 in
theorem h_whyNot {w : W0} {κ : AH} {σ : MS} {nb nw np : Nat} {wb : Nat → Nat} (h : RI κ κ σ nb nw np wb) (ho : gT κ (tM 41) = 13 ∧ gN κ (tM 41) = 1) {b : Int32} : CYH w yL_whyNot mL_whyNot [.ref (tS 4), .int b, .ref (tM 41)] κ (hQ κ (mWhy σ b)) := by
  intro θ H hN hK
  have h4 : gT κ (tS 4) = 9 := h.2.1.1.t4
  have hb : gT H (θ (tS 4)) = 9 := (hN.1 (tS 4) (by rw [h4]; decide)).1.trans h4
  refine Ch_of mcL_whyNot (Nat.le_of_ble_eq_true rfl) (fun v hv => by rcases List.mem_map.mp hv with ⟨x9, hx, rfl⟩; rw [cat_rn]; exact cat1 (as := [.ref (tS 4), .int b, .ref (tM 41)]) rfl x9 hx) ?_
  refine run_ok rkL_whyNot noCut 40 _ _ _ _ _ _ ?_
  refine x_callX (Cl := RX8) (as := [.int b]) (by decide +kernel : decode cL_whyNot 4 = .ok (.invokevirtual 62, 3)) lkL_62 mcX8_whyNot ⟨by decide, by decide⟩ ciX8 rfl (Nat.le_of_ble_eq_true rfl) (by decide) (by decide) hb (k_whyNot (κ0 := κ) h θ H hN (hK.sub (by simp))) (fun v h' q => ?_) (fun E h' q => ?_)
  · obtain ⟨θ', v', κ', a, b, rfl, d, h34, rfl, hre⟩ := q
    refine run_ok rkL_whyNot noCut 40 _ _ _ _ _ _ ?_
    refine And.intro (out_ok ho a b) ?_
    exact And.intro ⟨(show _ ≤ _ by decide), (show _ ≤ _ by decide)⟩ (hq_ret ho.1 h34 hre a b)
  · obtain ⟨θ', κ', a, b, hre, q⟩ := q
    rcases q with ⟨h34, rfl⟩
    · refine ⟨12, hdL_whyNot_1, fun q => ?_⟩
      refine run_ok rkL_whyNot noCut 40 _ _ _ _ _ _ ?_
      exact And.intro ⟨(show _ ≤ _ by decide), (show _ ≤ _ by decide)⟩ (hq_ex h34 (by decide) hre a b)
theorem hdL_told_1 : HDL mL_told "java/lang/IndexOutOfBoundsException" 5 13 := ⟨[], _, _, "java/lang/IndexOutOfBoundsException", rfl, (fun z hz => nomatch hz), rfl, by decide, inT 330 (by decide +kernel) rfl, by decide +kernel, rfl⟩
theorem hdL_told_2 : HDL mL_told "java/lang/IllegalArgumentException" 5 17 := ⟨[_], _, _, "java/lang/IllegalArgumentException", rfl, (fun z hz => by
    simp only [List.mem_cons, List.not_mem_nil, or_false] at hz
    subst hz
    exact Or.inr ⟨by decide, "java/lang/IndexOutOfBoundsException", inT 330 (by decide +kernel) rfl, by decide +kernel⟩), rfl, by decide, inT 251 (by decide +kernel) rfl, by decide +kernel, rfl⟩
set_option maxRecDepth 20000 in
theorem h_told {w : W0} {κ : AH} {σ : MS} {nb nw np : Nat} {wb : Nat → Nat} (h : RI κ κ σ nb nw np wb) (ho : gT κ (tM 41) = 13 ∧ gN κ (tM 41) = 1) {b q0 : Int32} : CYH w yL_told mL_told [.ref (tS 4), .int b, .int q0, .ref (tM 41)] κ (hQ κ (mTold σ b q0)) := by
  intro θ H hN hK
  have h4 : gT κ (tS 4) = 9 := h.2.1.1.t4
  have hb : gT H (θ (tS 4)) = 9 := (hN.1 (tS 4) (by rw [h4]; decide)).1.trans h4
  refine Ch_of mcL_told (Nat.le_of_ble_eq_true rfl) (fun v hv => by rcases List.mem_map.mp hv with ⟨x9, hx, rfl⟩; rw [cat_rn]; exact cat1 (as := [.ref (tS 4), .int b, .int q0, .ref (tM 41)]) rfl x9 hx) ?_
  refine run_ok rkL_told noCut 40 _ _ _ _ _ _ ?_
  refine x_callX (Cl := RX8) (as := [.int b, .int q0]) (by decide +kernel : decode cL_told 5 = .ok (.invokevirtual 65, 3)) lkL_65 mcX8_told ⟨by decide, by decide⟩ ciX8 rfl (Nat.le_of_ble_eq_true rfl) (by decide) (by decide) hb (k_told (κ0 := κ) h θ H hN (hK.sub (by simp))) (fun v h' q => ?_) (fun E h' q => ?_)
  · obtain ⟨θ', v', κ', a, b, rfl, d, h34, rfl, hre⟩ := q
    refine run_ok rkL_told noCut 40 _ _ _ _ _ _ ?_
    refine And.intro (out_ok ho a b) ?_
    exact And.intro ⟨(show _ ≤ _ by decide), (show _ ≤ _ by decide)⟩ (hq_ret ho.1 h34 hre a b)
  · obtain ⟨θ', κ', a, b, hre, q⟩ := q
    rcases q with ⟨h34, rfl⟩ | ⟨h34, rfl⟩
    · refine ⟨13, hdL_told_1, fun q => ?_⟩
      refine run_ok rkL_told noCut 40 _ _ _ _ _ _ ?_
      exact And.intro ⟨(show _ ≤ _ by decide), (show _ ≤ _ by decide)⟩ (hq_ex h34 (by decide) hre a b)
    · refine ⟨17, hdL_told_2, fun q => ?_⟩
      refine run_ok rkL_told noCut 40 _ _ _ _ _ _ ?_
      exact And.intro ⟨(show _ ≤ _ by decide), (show _ ≤ _ by decide)⟩ (hq_ex h34 (by decide) hre a b)
theorem hdL_weld_1 : HDL mL_weld "java/lang/IndexOutOfBoundsException" 5 13 := ⟨[], _, _, "java/lang/IndexOutOfBoundsException", rfl, (fun z hz => nomatch hz), rfl, by decide, inT 330 (by decide +kernel) rfl, by decide +kernel, rfl⟩
theorem hdL_weld_2 : HDL mL_weld "java/lang/IllegalArgumentException" 5 17 := ⟨[_], _, _, "java/lang/IllegalArgumentException", rfl, (fun z hz => by
    simp only [List.mem_cons, List.not_mem_nil, or_false] at hz
    subst hz
    exact Or.inr ⟨by decide, "java/lang/IndexOutOfBoundsException", inT 330 (by decide +kernel) rfl, by decide +kernel⟩), rfl, by decide, inT 251 (by decide +kernel) rfl, by decide +kernel, rfl⟩
set_option maxRecDepth 20000 in
theorem h_weld {w : W0} {κ : AH} {σ : MS} {nb nw np : Nat} {wb : Nat → Nat} (h : RI κ κ σ nb nw np wb) (ho : gT κ (tM 41) = 13 ∧ gN κ (tM 41) = 1) {b q0 : Int32} : CYH w yL_weld mL_weld [.ref (tS 4), .int b, .int q0, .ref (tM 41)] κ (hQ κ (mWeld σ b q0)) := by
  intro θ H hN hK
  have h4 : gT κ (tS 4) = 9 := h.2.1.1.t4
  have hb : gT H (θ (tS 4)) = 9 := (hN.1 (tS 4) (by rw [h4]; decide)).1.trans h4
  refine Ch_of mcL_weld (Nat.le_of_ble_eq_true rfl) (fun v hv => by rcases List.mem_map.mp hv with ⟨x9, hx, rfl⟩; rw [cat_rn]; exact cat1 (as := [.ref (tS 4), .int b, .int q0, .ref (tM 41)]) rfl x9 hx) ?_
  refine run_ok rkL_weld noCut 40 _ _ _ _ _ _ ?_
  refine x_callX (Cl := RX8) (as := [.int b, .int q0]) (by decide +kernel : decode cL_weld 5 = .ok (.invokevirtual 68, 3)) lkL_68 mcX8_weld ⟨by decide, by decide⟩ ciX8 rfl (Nat.le_of_ble_eq_true rfl) (by decide) (by decide) hb (k_weld (κ0 := κ) h θ H hN (hK.sub (by simp))) (fun v h' q => ?_) (fun E h' q => ?_)
  · obtain ⟨θ', v', κ', a, b, rfl, d, h34, rfl, hre⟩ := q
    refine run_ok rkL_weld noCut 40 _ _ _ _ _ _ ?_
    refine And.intro (out_ok ho a b) ?_
    exact And.intro ⟨(show _ ≤ _ by decide), (show _ ≤ _ by decide)⟩ (hq_ret ho.1 h34 hre a b)
  · obtain ⟨θ', κ', a, b, hre, q⟩ := q
    rcases q with ⟨h34, rfl⟩ | ⟨h34, rfl⟩
    · refine ⟨13, hdL_weld_1, fun q => ?_⟩
      refine run_ok rkL_weld noCut 40 _ _ _ _ _ _ ?_
      exact And.intro ⟨(show _ ≤ _ by decide), (show _ ≤ _ by decide)⟩ (hq_ex h34 (by decide) hre a b)
    · refine ⟨17, hdL_weld_2, fun q => ?_⟩
      refine run_ok rkL_weld noCut 40 _ _ _ _ _ _ ?_
      exact And.intro ⟨(show _ ≤ _ by decide), (show _ ≤ _ by decide)⟩ (hq_ex h34 (by decide) hre a b)
theorem hdL_cell_1 : HDL mL_cell "java/lang/IndexOutOfBoundsException" 5 13 := ⟨[], _, _, "java/lang/IndexOutOfBoundsException", rfl, (fun z hz => nomatch hz), rfl, by decide, inT 330 (by decide +kernel) rfl, by decide +kernel, rfl⟩
theorem hdL_cell_2 : HDL mL_cell "java/lang/IllegalArgumentException" 5 17 := ⟨[_], _, _, "java/lang/IllegalArgumentException", rfl, (fun z hz => by
    simp only [List.mem_cons, List.not_mem_nil, or_false] at hz
    subst hz
    exact Or.inr ⟨by decide, "java/lang/IndexOutOfBoundsException", inT 330 (by decide +kernel) rfl, by decide +kernel⟩), rfl, by decide, inT 251 (by decide +kernel) rfl, by decide +kernel, rfl⟩
set_option maxRecDepth 20000 in
theorem h_cell {w : W0} {κ : AH} {σ : MS} {nb nw np : Nat} {wb : Nat → Nat} (h : RI κ κ σ nb nw np wb) (ho : gT κ (tM 41) = 13 ∧ gN κ (tM 41) = 1) {x q0 : Int32} : CYH w yL_cell mL_cell [.ref (tS 4), .int x, .int q0, .ref (tM 41)] κ (hQ κ (mCell σ x q0)) := by
  intro θ H hN hK
  have h4 : gT κ (tS 4) = 9 := h.2.1.1.t4
  have hb : gT H (θ (tS 4)) = 9 := (hN.1 (tS 4) (by rw [h4]; decide)).1.trans h4
  refine Ch_of mcL_cell (Nat.le_of_ble_eq_true rfl) (fun v hv => by rcases List.mem_map.mp hv with ⟨x9, hx, rfl⟩; rw [cat_rn]; exact cat1 (as := [.ref (tS 4), .int x, .int q0, .ref (tM 41)]) rfl x9 hx) ?_
  refine run_ok rkL_cell noCut 40 _ _ _ _ _ _ ?_
  refine x_callX (Cl := RX8) (as := [.int x, .int q0]) (by decide +kernel : decode cL_cell 5 = .ok (.invokevirtual 71, 3)) lkL_71 mcX8_cell ⟨by decide, by decide⟩ ciX8 rfl (Nat.le_of_ble_eq_true rfl) (by decide) (by decide) hb (k_cell (κ0 := κ) h θ H hN (hK.sub (by simp))) (fun v h' q => ?_) (fun E h' q => ?_)
  · obtain ⟨θ', v', κ', a, b, rfl, d, h34, rfl, hre⟩ := q
    refine run_ok rkL_cell noCut 40 _ _ _ _ _ _ ?_
    refine And.intro (out_ok ho a b) ?_
    exact And.intro ⟨(show _ ≤ _ by decide), (show _ ≤ _ by decide)⟩ (hq_ret ho.1 h34 hre a b)
  · obtain ⟨θ', κ', a, b, hre, q⟩ := q
    rcases q with ⟨h34, rfl⟩ | ⟨h34, rfl⟩
    · refine ⟨13, hdL_cell_1, fun q => ?_⟩
      refine run_ok rkL_cell noCut 40 _ _ _ _ _ _ ?_
      exact And.intro ⟨(show _ ≤ _ by decide), (show _ ≤ _ by decide)⟩ (hq_ex h34 (by decide) hre a b)
    · refine ⟨17, hdL_cell_2, fun q => ?_⟩
      refine run_ok rkL_cell noCut 40 _ _ _ _ _ _ ?_
      exact And.intro ⟨(show _ ≤ _ by decide), (show _ ≤ _ by decide)⟩ (hq_ex h34 (by decide) hre a b)
theorem hdL_roomAt_1 : HDL mL_roomAt "java/lang/IndexOutOfBoundsException" 5 13 := ⟨[], _, _, "java/lang/IndexOutOfBoundsException", rfl, (fun z hz => nomatch hz), rfl, by decide, inT 330 (by decide +kernel) rfl, by decide +kernel, rfl⟩
set_option maxRecDepth 20000 in
theorem h_roomAt {w : W0} {κ : AH} {σ : MS} {nb nw np : Nat} {wb : Nat → Nat} (h : RI κ κ σ nb nw np wb) (ho : gT κ (tM 41) = 13 ∧ gN κ (tM 41) = 1) {p q0 : Int32} : CYH w yL_roomAt mL_roomAt [.ref (tS 4), .int p, .int q0, .ref (tM 41)] κ (hQ κ (mRat σ p q0)) := by
  intro θ H hN hK
  have h4 : gT κ (tS 4) = 9 := h.2.1.1.t4
  have hb : gT H (θ (tS 4)) = 9 := (hN.1 (tS 4) (by rw [h4]; decide)).1.trans h4
  refine Ch_of mcL_roomAt (Nat.le_of_ble_eq_true rfl) (fun v hv => by rcases List.mem_map.mp hv with ⟨x9, hx, rfl⟩; rw [cat_rn]; exact cat1 (as := [.ref (tS 4), .int p, .int q0, .ref (tM 41)]) rfl x9 hx) ?_
  refine run_ok rkL_roomAt noCut 40 _ _ _ _ _ _ ?_
  refine x_callX (Cl := RX8) (as := [.int p, .int q0]) (by decide +kernel : decode cL_roomAt 5 = .ok (.invokevirtual 74, 3)) lkL_74 mcX8_roomAt ⟨by decide, by decide⟩ ciX8 rfl (Nat.le_of_ble_eq_true rfl) (by decide) (by decide) hb (k_roomAt (κ0 := κ) h θ H hN (hK.sub (by simp))) (fun v h' q => ?_) (fun E h' q => ?_)
  · obtain ⟨θ', v', κ', a, b, rfl, d, h34, rfl, hre⟩ := q
    refine run_ok rkL_roomAt noCut 40 _ _ _ _ _ _ ?_
    refine And.intro (out_ok ho a b) ?_
    exact And.intro ⟨(show _ ≤ _ by decide), (show _ ≤ _ by decide)⟩ (hq_ret ho.1 h34 hre a b)
  · obtain ⟨θ', κ', a, b, hre, q⟩ := q
    rcases q with ⟨h34, rfl⟩
    · refine ⟨13, hdL_roomAt_1, fun q => ?_⟩
      refine run_ok rkL_roomAt noCut 40 _ _ _ _ _ _ ?_
      exact And.intro ⟨(show _ ≤ _ by decide), (show _ ≤ _ by decide)⟩ (hq_ex h34 (by decide) hre a b)
theorem hdL_water_1 : HDL mL_water "java/lang/IllegalArgumentException" 4 12 := ⟨[], _, _, "java/lang/IllegalArgumentException", rfl, (fun z hz => nomatch hz), rfl, by decide, inT 251 (by decide +kernel) rfl, by decide +kernel, rfl⟩
set_option maxRecDepth 20000 in
theorem h_water {w : W0} {κ : AH} {σ : MS} {nb nw np : Nat} {wb : Nat → Nat} (h : RI κ κ σ nb nw np wb) (ho : gT κ (tM 41) = 13 ∧ gN κ (tM 41) = 1) {x : Int32} : CYH w yL_water mL_water [.ref (tS 4), .int x, .ref (tM 41)] κ (hQ κ (mWater σ x)) := by
  intro θ H hN hK
  have h4 : gT κ (tS 4) = 9 := h.2.1.1.t4
  have hb : gT H (θ (tS 4)) = 9 := (hN.1 (tS 4) (by rw [h4]; decide)).1.trans h4
  refine Ch_of mcL_water (Nat.le_of_ble_eq_true rfl) (fun v hv => by rcases List.mem_map.mp hv with ⟨x9, hx, rfl⟩; rw [cat_rn]; exact cat1 (as := [.ref (tS 4), .int x, .ref (tM 41)]) rfl x9 hx) ?_
  refine run_ok rkL_water noCut 40 _ _ _ _ _ _ ?_
  refine x_callX (Cl := RX8) (as := [.int x]) (by decide +kernel : decode cL_water 4 = .ok (.invokevirtual 77, 3)) lkL_77 mcX8_water ⟨by decide, by decide⟩ ciX8 rfl (Nat.le_of_ble_eq_true rfl) (by decide) (by decide) hb (k_water (κ0 := κ) h θ H hN (hK.sub (by simp))) (fun v h' q => ?_) (fun E h' q => ?_)
  · obtain ⟨θ', v', κ', a, b, rfl, d, h34, rfl, hre⟩ := q
    refine run_ok rkL_water noCut 40 _ _ _ _ _ _ ?_
    refine And.intro (out_ok ho a b) ?_
    exact And.intro ⟨(show _ ≤ _ by decide), (show _ ≤ _ by decide)⟩ (hq_ret ho.1 h34 hre a b)
  · obtain ⟨θ', κ', a, b, hre, q⟩ := q
    rcases q with ⟨h34, rfl⟩
    · refine ⟨12, hdL_water_1, fun q => ?_⟩
      refine run_ok rkL_water noCut 40 _ _ _ _ _ _ ?_
      exact And.intro ⟨(show _ ≤ _ by decide), (show _ ≤ _ by decide)⟩ (hq_ex h34 (by decide) hre a b)

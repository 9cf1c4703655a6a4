
/-! THE LAW'S 'does': each call, its answer or its exception's number -/
def dv (c1 c2 c3 : Int32) (a : Int32 × MS) : Int32 := if a.2.1 34 = 0 then a.1 else if a.2.1 34 = 1 then c1 else if a.2.1 34 = 2 then c2 else c3
def dQ (c1 c2 c3 : Int32) (κ : AH) (a : Int32 × MS) (v : Option Value) (κ' : AH) : Prop := v = some (.int (dv c1 c2 c3 a)) ∧ RE κ κ' a.2
theorem dq_ret {κ κ' h' : AH} {θ θ' : Nat → Nat} {c1 c2 c3 : Int32} {a : Int32 × MS} (h0 : a.2.1 34 = 0) (hr : RE κ κ' a.2) (hN : RN θ' κ' h') (hE : Ext κ θ κ' θ') : QR θ κ (dQ c1 c2 c3 κ a) (some (.int a.1)) h' := ⟨θ', some (.int a.1), κ', hN, hE, rfl, fun x hx => by cases hx; trivial, by unfold dv; rw [if_pos h0], hr⟩
theorem dq_ex {κ κ' h' : AH} {θ θ' : Nat → Nat} {c1 c2 c3 c : Int32} {a : Int32 × MS} (h0 : dv c1 c2 c3 a = c) (hr : RE κ κ' a.2) (hN : RN θ' κ' h') (hE : Ext κ θ κ' θ') : QR θ κ (dQ c1 c2 c3 κ a) (some (.int c)) h' := ⟨θ', some (.int c), κ', hN, hE, rfl, fun x hx => by cases hx; trivial, by rw [h0], hr⟩
theorem dvx1 {c1 c2 c3 : Int32} {a : Int32 × MS} (h : a.2.1 34 = 1) : dv c1 c2 c3 a = c1 := by unfold dv; rw [if_neg (by rw [h]; decide), if_pos h]
theorem dvx2 {c1 c2 c3 : Int32} {a : Int32 × MS} (h : a.2.1 34 = 2) : dv c1 c2 c3 a = c2 := by unfold dv; rw [if_neg (by rw [h]; decide), if_neg (by rw [h]; decide), if_pos h]
theorem dvx3 {c1 c2 c3 : Int32} {a : Int32 × MS} (h : a.2.1 34 = 3) : dv c1 c2 c3 a = c3 := by unfold dv; rw [if_neg (by rw [h]; decide), if_neg (by rw [h]; decide), if_neg (by rw [h]; decide)]
theorem cl_does_0 : Cond.classLink RL 75 "java/lang/IndexOutOfBoundsException" ∈ TB := inT 197 (by decide +kernel) rfl
theorem cl_does_1 : Cond.classLink RL 78 "java/lang/IllegalArgumentException" ∈ TB := inT 198 (by decide +kernel) rfl
theorem cl_does_2 : Cond.classLink RL 81 "java/lang/IllegalStateException" ∈ TB := inT 199 (by decide +kernel) rfl
theorem hd_hall_1 : HDL mL_does "java/lang/IllegalArgumentException" 7 303 := ⟨[_], _, _, "java/lang/IllegalArgumentException", rfl, (fun z hz => by
    simp only [List.mem_cons, List.not_mem_nil, or_false] at hz
    subst hz
    exact Or.inr ⟨by decide, "java/lang/IndexOutOfBoundsException", cl_does_0, by decide +kernel⟩), rfl, by decide, cl_does_1, by decide +kernel, rfl⟩
set_option maxRecDepth 20000 in
theorem w_hall {w : W0} {κ : AH} {σ : MS} {nb nw np : Nat} {wb : Nat → Nat} (h : RI κ κ σ nb nw np wb) {f t r2 r3 r4 r5 : Int32} : CYH w yL_does mL_does [.ref (tS 4), .int 0, .int f, .int t, .int r2, .int r3, .int r4, .int r5] κ (dQ (-2000000) 0 0 κ (mHall σ f t)) := by
  intro θ H hN hK
  have h4 : gT κ (tS 4) = 9 := h.2.1.1.t4
  have hb : gT H (θ (tS 4)) = 9 := (hN.1 (tS 4) (by rw [h4]; decide)).1.trans h4
  have hK2 : okK κ [.ref (tS 4), .int f, .int t] := hK.sub (by simp)
  refine Ch_of mcL_does (Nat.le_of_ble_eq_true rfl) (fun v hv => by rcases List.mem_map.mp hv with ⟨x9, hx, rfl⟩; rw [cat_rn]; exact cat1 (as := [.ref (tS 4), .int 0, .int f, .int t, .int r2, .int r3, .int r4, .int r5]) rfl x9 hx) ?_
  refine run_ok rkL_does noCut 100 _ _ _ _ _ _ ?_
  refine And.intro (fun z => absurd rfl z) (fun _ => ?_)
  refine x_callX (Cl := RX8) (as := [.int f, .int t]) (by decide +kernel : decode cL_does 7 = .ok (.invokevirtual 8, 3)) lkL_8 mcX8_hall ⟨by decide, by decide⟩ ciX8 rfl (Nat.le_of_ble_eq_true rfl) (by decide) (by decide) hb (k_hall (κ0 := κ) h θ H hN hK2) (fun v h' q => ?_) (fun E h' q => ?_)
  · obtain ⟨θ', v', κ', a, b, rfl, d, h34, rfl, hre⟩ := q
    refine run_ok rkL_does noCut 100 _ _ _ _ _ _ ?_
    exact And.intro ⟨(show _ ≤ _ by decide), (show _ ≤ _ by decide)⟩ (dq_ret h34 hre a b)
  · obtain ⟨θ', κ', a, b, hre, q⟩ := q
    rcases q with ⟨h34, rfl⟩
    · refine ⟨303, hd_hall_1, fun q => ?_⟩
      refine run_ok rkL_does noCut 100 _ _ _ _ _ _ ?_
      refine qL_does_305 ?_
      refine run_ok rkL_does noCut 100 _ _ _ _ _ _ ?_
      exact And.intro ⟨(show _ ≤ _ by decide), (show _ ≤ _ by decide)⟩ (dq_ex (dvx1 h34) hre a b)
theorem hd_crane_0 : HDL mL_does "java/lang/IndexOutOfBoundsException" 21 298 := ⟨[], _, _, "java/lang/IndexOutOfBoundsException", rfl, (fun z hz => nomatch hz), rfl, by decide, cl_does_0, by decide +kernel, rfl⟩
theorem hd_crane_1 : HDL mL_does "java/lang/IllegalArgumentException" 21 303 := ⟨[_], _, _, "java/lang/IllegalArgumentException", rfl, (fun z hz => by
    simp only [List.mem_cons, List.not_mem_nil, or_false] at hz
    subst hz
    exact Or.inr ⟨by decide, "java/lang/IndexOutOfBoundsException", cl_does_0, by decide +kernel⟩), rfl, by decide, cl_does_1, by decide +kernel, rfl⟩
set_option maxRecDepth 20000 in
theorem w_crane {w : W0} {κ : AH} {σ : MS} {nb nw np : Nat} {wb : Nat → Nat} (h : RI κ κ σ nb nw np wb) {f t r2 r3 r4 r5 : Int32} : CYH w yL_does mL_does [.ref (tS 4), .int 1, .int f, .int t, .int r2, .int r3, .int r4, .int r5] κ (dQ (-3000000) (-2000000) 0 κ (mCrane σ f t)) := by
  intro θ H hN hK
  have h4 : gT κ (tS 4) = 9 := h.2.1.1.t4
  have hb : gT H (θ (tS 4)) = 9 := (hN.1 (tS 4) (by rw [h4]; decide)).1.trans h4
  have hK2 : okK κ [.ref (tS 4), .int f, .int t] := hK.sub (by simp)
  refine Ch_of mcL_does (Nat.le_of_ble_eq_true rfl) (fun v hv => by rcases List.mem_map.mp hv with ⟨x9, hx, rfl⟩; rw [cat_rn]; exact cat1 (as := [.ref (tS 4), .int 1, .int f, .int t, .int r2, .int r3, .int r4, .int r5]) rfl x9 hx) ?_
  refine run_ok rkL_does noCut 100 _ _ _ _ _ _ ?_
  refine And.intro (fun _ => ?_) (fun z => absurd z (by decide))
  refine And.intro (fun z => absurd rfl z) (fun _ => ?_)
  refine x_callX (Cl := RX8) (as := [.int f, .int t]) (by decide +kernel : decode cL_does 21 = .ok (.invokevirtual 14, 3)) lkL_14 mcX8_crane ⟨by decide, by decide⟩ ciX8 rfl (Nat.le_of_ble_eq_true rfl) (by decide) (by decide) hb (k_crane (κ0 := κ) h θ H hN hK2) (fun v h' q => ?_) (fun E h' q => ?_)
  · obtain ⟨θ', v', κ', a, b, rfl, d, h34, rfl, hre⟩ := q
    refine run_ok rkL_does noCut 100 _ _ _ _ _ _ ?_
    exact And.intro ⟨(show _ ≤ _ by decide), (show _ ≤ _ by decide)⟩ (dq_ret h34 hre a b)
  · obtain ⟨θ', κ', a, b, hre, q⟩ := q
    rcases q with ⟨h34, rfl⟩ | ⟨h34, rfl⟩
    · refine ⟨298, hd_crane_0, fun q => ?_⟩
      refine run_ok rkL_does noCut 100 _ _ _ _ _ _ ?_
      refine qL_does_300 ?_
      refine run_ok rkL_does noCut 100 _ _ _ _ _ _ ?_
      exact And.intro ⟨(show _ ≤ _ by decide), (show _ ≤ _ by decide)⟩ (dq_ex (dvx1 h34) hre a b)
    · refine ⟨303, hd_crane_1, fun q => ?_⟩
      refine run_ok rkL_does noCut 100 _ _ _ _ _ _ ?_
      refine qL_does_305 ?_
      refine run_ok rkL_does noCut 100 _ _ _ _ _ _ ?_
      exact And.intro ⟨(show _ ≤ _ by decide), (show _ ≤ _ by decide)⟩ (dq_ex (dvx2 h34) hre a b)
theorem hd_welder_0 : HDL mL_does "java/lang/IndexOutOfBoundsException" 35 298 := ⟨[], _, _, "java/lang/IndexOutOfBoundsException", rfl, (fun z hz => nomatch hz), rfl, by decide, cl_does_0, by decide +kernel, rfl⟩
theorem hd_welder_1 : HDL mL_does "java/lang/IllegalArgumentException" 35 303 := ⟨[_], _, _, "java/lang/IllegalArgumentException", rfl, (fun z hz => by
    simp only [List.mem_cons, List.not_mem_nil, or_false] at hz
    subst hz
    exact Or.inr ⟨by decide, "java/lang/IndexOutOfBoundsException", cl_does_0, by decide +kernel⟩), rfl, by decide, cl_does_1, by decide +kernel, rfl⟩
set_option maxRecDepth 20000 in
theorem w_welder {w : W0} {κ : AH} {σ : MS} {nb nw np : Nat} {wb : Nat → Nat} (h : RI κ κ σ nb nw np wb) {y f r2 r3 r4 r5 : Int32} : CYH w yL_does mL_does [.ref (tS 4), .int 2, .int y, .int f, .int r2, .int r3, .int r4, .int r5] κ (dQ (-3000000) (-2000000) 0 κ (mWelder σ y f)) := by
  intro θ H hN hK
  have h4 : gT κ (tS 4) = 9 := h.2.1.1.t4
  have hb : gT H (θ (tS 4)) = 9 := (hN.1 (tS 4) (by rw [h4]; decide)).1.trans h4
  have hK2 : okK κ [.ref (tS 4), .int y, .int f] := hK.sub (by simp)
  refine Ch_of mcL_does (Nat.le_of_ble_eq_true rfl) (fun v hv => by rcases List.mem_map.mp hv with ⟨x9, hx, rfl⟩; rw [cat_rn]; exact cat1 (as := [.ref (tS 4), .int 2, .int y, .int f, .int r2, .int r3, .int r4, .int r5]) rfl x9 hx) ?_
  refine run_ok rkL_does noCut 100 _ _ _ _ _ _ ?_
  refine And.intro (fun _ => ?_) (fun z => absurd z (by decide))
  refine And.intro (fun _ => ?_) (fun z => absurd z (by decide))
  refine And.intro (fun z => absurd rfl z) (fun _ => ?_)
  refine x_callX (Cl := RX8) (as := [.int y, .int f]) (by decide +kernel : decode cL_does 35 = .ok (.invokevirtual 17, 3)) lkL_17 mcX8_welder ⟨by decide, by decide⟩ ciX8 rfl (Nat.le_of_ble_eq_true rfl) (by decide) (by decide) hb (k_welder (κ0 := κ) h θ H hN hK2) (fun v h' q => ?_) (fun E h' q => ?_)
  · obtain ⟨θ', v', κ', a, b, rfl, d, h34, rfl, hre⟩ := q
    refine run_ok rkL_does noCut 100 _ _ _ _ _ _ ?_
    exact And.intro ⟨(show _ ≤ _ by decide), (show _ ≤ _ by decide)⟩ (dq_ret h34 hre a b)
  · obtain ⟨θ', κ', a, b, hre, q⟩ := q
    rcases q with ⟨h34, rfl⟩ | ⟨h34, rfl⟩
    · refine ⟨298, hd_welder_0, fun q => ?_⟩
      refine run_ok rkL_does noCut 100 _ _ _ _ _ _ ?_
      refine qL_does_300 ?_
      refine run_ok rkL_does noCut 100 _ _ _ _ _ _ ?_
      exact And.intro ⟨(show _ ≤ _ by decide), (show _ ≤ _ by decide)⟩ (dq_ex (dvx1 h34) hre a b)
    · refine ⟨303, hd_welder_1, fun q => ?_⟩
      refine run_ok rkL_does noCut 100 _ _ _ _ _ _ ?_
      refine qL_does_305 ?_
      refine run_ok rkL_does noCut 100 _ _ _ _ _ _ ?_
      exact And.intro ⟨(show _ ≤ _ by decide), (show _ ≤ _ by decide)⟩ (dq_ex (dvx2 h34) hre a b)
theorem hd_block_0 : HDL mL_does "java/lang/IndexOutOfBoundsException" 57 298 := ⟨[], _, _, "java/lang/IndexOutOfBoundsException", rfl, (fun z hz => nomatch hz), rfl, by decide, cl_does_0, by decide +kernel, rfl⟩
theorem hd_block_1 : HDL mL_does "java/lang/IllegalArgumentException" 57 303 := ⟨[_], _, _, "java/lang/IllegalArgumentException", rfl, (fun z hz => by
    simp only [List.mem_cons, List.not_mem_nil, or_false] at hz
    subst hz
    exact Or.inr ⟨by decide, "java/lang/IndexOutOfBoundsException", cl_does_0, by decide +kernel⟩), rfl, by decide, cl_does_1, by decide +kernel, rfl⟩
theorem hd_block_2 : HDL mL_does "java/lang/IllegalStateException" 57 308 := ⟨[_, _], _, _, "java/lang/IllegalStateException", rfl, (fun z hz => by
    simp only [List.mem_cons, List.not_mem_nil, or_false] at hz
    rcases hz with rfl | rfl
    · exact Or.inr ⟨by decide, "java/lang/IndexOutOfBoundsException", cl_does_0, by decide +kernel⟩
    · exact Or.inr ⟨by decide, "java/lang/IllegalArgumentException", cl_does_1, by decide +kernel⟩), rfl, by decide, cl_does_2, by decide +kernel, rfl⟩
set_option maxRecDepth 20000 in
theorem w_block {w : W0} {κ : AH} {σ : MS} {nb nw np : Nat} {wb : Nat → Nat} (h : RI κ κ σ nb nw np wb) {f l v0 t e g : Int32} : CYH w yL_does mL_does [.ref (tS 4), .int 3, .int f, .int l, .int v0, .int t, .int e, .int g] κ (dQ (-3000000) (-2000000) (-1000000) κ (mBlock σ f l v0 t e g)) := by
  intro θ H hN hK
  have h4 : gT κ (tS 4) = 9 := h.2.1.1.t4
  have hb : gT H (θ (tS 4)) = 9 := (hN.1 (tS 4) (by rw [h4]; decide)).1.trans h4
  have hK2 : okK κ [.ref (tS 4), .int f, .int l, .int v0, .int t, .int e, .int g] := hK.sub (by simp)
  refine Ch_of mcL_does (Nat.le_of_ble_eq_true rfl) (fun v hv => by rcases List.mem_map.mp hv with ⟨x9, hx, rfl⟩; rw [cat_rn]; exact cat1 (as := [.ref (tS 4), .int 3, .int f, .int l, .int v0, .int t, .int e, .int g]) rfl x9 hx) ?_
  refine run_ok rkL_does noCut 100 _ _ _ _ _ _ ?_
  refine And.intro (fun _ => ?_) (fun z => absurd z (by decide))
  refine And.intro (fun _ => ?_) (fun z => absurd z (by decide))
  refine And.intro (fun _ => ?_) (fun z => absurd z (by decide))
  refine And.intro (fun z => absurd rfl z) (fun _ => ?_)
  refine x_callX (Cl := RX8) (as := [.int f, .int l, .int v0, .int t, .int e, .int g]) (by decide +kernel : decode cL_does 57 = .ok (.invokevirtual 20, 3)) lkL_20 mcX8_block ⟨by decide, by decide⟩ ciX8 rfl (Nat.le_of_ble_eq_true rfl) (by decide) (by decide) hb (k_block (κ0 := κ) h θ H hN hK2) (fun v h' q => ?_) (fun E h' q => ?_)
  · obtain ⟨θ', v', κ', a, b, rfl, d, h34, rfl, hre⟩ := q
    refine run_ok rkL_does noCut 100 _ _ _ _ _ _ ?_
    exact And.intro ⟨(show _ ≤ _ by decide), (show _ ≤ _ by decide)⟩ (dq_ret h34 hre a b)
  · obtain ⟨θ', κ', a, b, hre, q⟩ := q
    rcases q with ⟨h34, rfl⟩ | ⟨h34, rfl⟩ | ⟨h34, rfl⟩
    · refine ⟨298, hd_block_0, fun q => ?_⟩
      refine run_ok rkL_does noCut 100 _ _ _ _ _ _ ?_
      refine qL_does_300 ?_
      refine run_ok rkL_does noCut 100 _ _ _ _ _ _ ?_
      exact And.intro ⟨(show _ ≤ _ by decide), (show _ ≤ _ by decide)⟩ (dq_ex (dvx1 h34) hre a b)
    · refine ⟨303, hd_block_1, fun q => ?_⟩
      refine run_ok rkL_does noCut 100 _ _ _ _ _ _ ?_
      refine qL_does_305 ?_
      refine run_ok rkL_does noCut 100 _ _ _ _ _ _ ?_
      exact And.intro ⟨(show _ ≤ _ by decide), (show _ ≤ _ by decide)⟩ (dq_ex (dvx2 h34) hre a b)
    · refine ⟨308, hd_block_2, fun q => ?_⟩
      refine run_ok rkL_does noCut 100 _ _ _ _ _ _ ?_
      refine qL_does_310 ?_
      refine run_ok rkL_does noCut 100 _ _ _ _ _ _ ?_
      exact And.intro ⟨(show _ ≤ _ by decide), (show _ ≤ _ by decide)⟩ (dq_ex (dvx3 h34) hre a b)
theorem hd_join_0 : HDL mL_does "java/lang/IndexOutOfBoundsException" 73 298 := ⟨[], _, _, "java/lang/IndexOutOfBoundsException", rfl, (fun z hz => nomatch hz), rfl, by decide, cl_does_0, by decide +kernel, rfl⟩
theorem hd_join_2 : HDL mL_does "java/lang/IllegalStateException" 73 308 := ⟨[_, _], _, _, "java/lang/IllegalStateException", rfl, (fun z hz => by
    simp only [List.mem_cons, List.not_mem_nil, or_false] at hz
    rcases hz with rfl | rfl
    · exact Or.inr ⟨by decide, "java/lang/IndexOutOfBoundsException", cl_does_0, by decide +kernel⟩
    · exact Or.inr ⟨by decide, "java/lang/IllegalArgumentException", cl_does_1, by decide +kernel⟩), rfl, by decide, cl_does_2, by decide +kernel, rfl⟩
set_option maxRecDepth 20000 in
theorem w_join {w : W0} {κ : AH} {σ : MS} {nb nw np : Nat} {wb : Nat → Nat} (h : RI κ κ σ nb nw np wb) {x y z r3 r4 r5 : Int32} : CYH w yL_does mL_does [.ref (tS 4), .int 4, .int x, .int y, .int z, .int r3, .int r4, .int r5] κ (dQ (-3000000) (-1000000) 0 κ (mJoin σ x y z)) := by
  intro θ H hN hK
  have h4 : gT κ (tS 4) = 9 := h.2.1.1.t4
  have hb : gT H (θ (tS 4)) = 9 := (hN.1 (tS 4) (by rw [h4]; decide)).1.trans h4
  have hK2 : okK κ [.ref (tS 4), .int x, .int y, .int z] := hK.sub (by simp)
  refine Ch_of mcL_does (Nat.le_of_ble_eq_true rfl) (fun v hv => by rcases List.mem_map.mp hv with ⟨x9, hx, rfl⟩; rw [cat_rn]; exact cat1 (as := [.ref (tS 4), .int 4, .int x, .int y, .int z, .int r3, .int r4, .int r5]) rfl x9 hx) ?_
  refine run_ok rkL_does noCut 100 _ _ _ _ _ _ ?_
  refine And.intro (fun _ => ?_) (fun z => absurd z (by decide))
  refine And.intro (fun _ => ?_) (fun z => absurd z (by decide))
  refine And.intro (fun _ => ?_) (fun z => absurd z (by decide))
  refine And.intro (fun _ => ?_) (fun z => absurd z (by decide))
  refine And.intro (fun z => absurd rfl z) (fun _ => ?_)
  refine x_callX (Cl := RX8) (as := [.int x, .int y, .int z]) (by decide +kernel : decode cL_does 73 = .ok (.invokevirtual 24, 3)) lkL_24 mcX8_join ⟨by decide, by decide⟩ ciX8 rfl (Nat.le_of_ble_eq_true rfl) (by decide) (by decide) hb (k_join (κ0 := κ) h θ H hN hK2) (fun v h' q => ?_) (fun E h' q => ?_)
  · obtain ⟨θ', v', κ', a, b, rfl, d, h34, rfl, hre⟩ := q
    refine run_ok rkL_does noCut 100 _ _ _ _ _ _ ?_
    exact And.intro ⟨(show _ ≤ _ by decide), (show _ ≤ _ by decide)⟩ (dq_ret h34 hre a b)
  · obtain ⟨θ', κ', a, b, hre, q⟩ := q
    rcases q with ⟨h34, rfl⟩ | ⟨h34, rfl⟩
    · refine ⟨298, hd_join_0, fun q => ?_⟩
      refine run_ok rkL_does noCut 100 _ _ _ _ _ _ ?_
      refine qL_does_300 ?_
      refine run_ok rkL_does noCut 100 _ _ _ _ _ _ ?_
      exact And.intro ⟨(show _ ≤ _ by decide), (show _ ≤ _ by decide)⟩ (dq_ex (dvx1 h34) hre a b)
    · refine ⟨308, hd_join_2, fun q => ?_⟩
      refine run_ok rkL_does noCut 100 _ _ _ _ _ _ ?_
      refine qL_does_310 ?_
      refine run_ok rkL_does noCut 100 _ _ _ _ _ _ ?_
      exact And.intro ⟨(show _ ≤ _ by decide), (show _ ≤ _ by decide)⟩ (dq_ex (dvx2 h34) hre a b)
theorem hd_erect_0 : HDL mL_does "java/lang/IndexOutOfBoundsException" 87 298 := ⟨[], _, _, "java/lang/IndexOutOfBoundsException", rfl, (fun z hz => nomatch hz), rfl, by decide, cl_does_0, by decide +kernel, rfl⟩
theorem hd_erect_2 : HDL mL_does "java/lang/IllegalStateException" 87 308 := ⟨[_, _], _, _, "java/lang/IllegalStateException", rfl, (fun z hz => by
    simp only [List.mem_cons, List.not_mem_nil, or_false] at hz
    rcases hz with rfl | rfl
    · exact Or.inr ⟨by decide, "java/lang/IndexOutOfBoundsException", cl_does_0, by decide +kernel⟩
    · exact Or.inr ⟨by decide, "java/lang/IllegalArgumentException", cl_does_1, by decide +kernel⟩), rfl, by decide, cl_does_2, by decide +kernel, rfl⟩
set_option maxRecDepth 20000 in
theorem w_erect {w : W0} {κ : AH} {σ : MS} {nb nw np : Nat} {wb : Nat → Nat} (h : RI κ κ σ nb nw np wb) {x z r2 r3 r4 r5 : Int32} : CYH w yL_does mL_does [.ref (tS 4), .int 5, .int x, .int z, .int r2, .int r3, .int r4, .int r5] κ (dQ (-3000000) (-1000000) 0 κ (mEr σ x z)) := by
  intro θ H hN hK
  have h4 : gT κ (tS 4) = 9 := h.2.1.1.t4
  have hb : gT H (θ (tS 4)) = 9 := (hN.1 (tS 4) (by rw [h4]; decide)).1.trans h4
  have hK2 : okK κ [.ref (tS 4), .int x, .int z] := hK.sub (by simp)
  refine Ch_of mcL_does (Nat.le_of_ble_eq_true rfl) (fun v hv => by rcases List.mem_map.mp hv with ⟨x9, hx, rfl⟩; rw [cat_rn]; exact cat1 (as := [.ref (tS 4), .int 5, .int x, .int z, .int r2, .int r3, .int r4, .int r5]) rfl x9 hx) ?_
  refine run_ok rkL_does noCut 100 _ _ _ _ _ _ ?_
  refine And.intro (fun _ => ?_) (fun z => absurd z (by decide))
  refine And.intro (fun _ => ?_) (fun z => absurd z (by decide))
  refine And.intro (fun _ => ?_) (fun z => absurd z (by decide))
  refine And.intro (fun _ => ?_) (fun z => absurd z (by decide))
  refine And.intro (fun _ => ?_) (fun z => absurd z (by decide))
  refine And.intro (fun z => absurd rfl z) (fun _ => ?_)
  refine x_callX (Cl := RX8) (as := [.int x, .int z]) (by decide +kernel : decode cL_does 87 = .ok (.invokevirtual 28, 3)) lkL_28 mcX8_erect ⟨by decide, by decide⟩ ciX8 rfl (Nat.le_of_ble_eq_true rfl) (by decide) (by decide) hb (k_erect (κ0 := κ) h θ H hN hK2) (fun v h' q => ?_) (fun E h' q => ?_)
  · obtain ⟨θ', v', κ', a, b, rfl, d, h34, rfl, hre⟩ := q
    refine run_ok rkL_does noCut 100 _ _ _ _ _ _ ?_
    exact And.intro ⟨(show _ ≤ _ by decide), (show _ ≤ _ by decide)⟩ (dq_ret h34 hre a b)
  · obtain ⟨θ', κ', a, b, hre, q⟩ := q
    rcases q with ⟨h34, rfl⟩ | ⟨h34, rfl⟩
    · refine ⟨298, hd_erect_0, fun q => ?_⟩
      refine run_ok rkL_does noCut 100 _ _ _ _ _ _ ?_
      refine qL_does_300 ?_
      refine run_ok rkL_does noCut 100 _ _ _ _ _ _ ?_
      exact And.intro ⟨(show _ ≤ _ by decide), (show _ ≤ _ by decide)⟩ (dq_ex (dvx1 h34) hre a b)
    · refine ⟨308, hd_erect_2, fun q => ?_⟩
      refine run_ok rkL_does noCut 100 _ _ _ _ _ _ ?_
      refine qL_does_310 ?_
      refine run_ok rkL_does noCut 100 _ _ _ _ _ _ ?_
      exact And.intro ⟨(show _ ≤ _ by decide), (show _ ≤ _ by decide)⟩ (dq_ex (dvx2 h34) hre a b)
theorem hd_scrap_0 : HDL mL_does "java/lang/IndexOutOfBoundsException" 101 298 := ⟨[], _, _, "java/lang/IndexOutOfBoundsException", rfl, (fun z hz => nomatch hz), rfl, by decide, cl_does_0, by decide +kernel, rfl⟩
theorem hd_scrap_2 : HDL mL_does "java/lang/IllegalStateException" 101 308 := ⟨[_, _], _, _, "java/lang/IllegalStateException", rfl, (fun z hz => by
    simp only [List.mem_cons, List.not_mem_nil, or_false] at hz
    rcases hz with rfl | rfl
    · exact Or.inr ⟨by decide, "java/lang/IndexOutOfBoundsException", cl_does_0, by decide +kernel⟩
    · exact Or.inr ⟨by decide, "java/lang/IllegalArgumentException", cl_does_1, by decide +kernel⟩), rfl, by decide, cl_does_2, by decide +kernel, rfl⟩
set_option maxRecDepth 20000 in
theorem w_scrap {w : W0} {κ : AH} {σ : MS} {nb nw np : Nat} {wb : Nat → Nat} (h : RI κ κ σ nb nw np wb) {b r1 r2 r3 r4 r5 : Int32} : CYH w yL_does mL_does [.ref (tS 4), .int 6, .int b, .int r1, .int r2, .int r3, .int r4, .int r5] κ (dQ (-3000000) (-1000000) 0 κ (mScr σ nb b)) := by
  intro θ H hN hK
  have h4 : gT κ (tS 4) = 9 := h.2.1.1.t4
  have hb : gT H (θ (tS 4)) = 9 := (hN.1 (tS 4) (by rw [h4]; decide)).1.trans h4
  have hK2 : okK κ [.ref (tS 4), .int b] := hK.sub (by simp)
  refine Ch_of mcL_does (Nat.le_of_ble_eq_true rfl) (fun v hv => by rcases List.mem_map.mp hv with ⟨x9, hx, rfl⟩; rw [cat_rn]; exact cat1 (as := [.ref (tS 4), .int 6, .int b, .int r1, .int r2, .int r3, .int r4, .int r5]) rfl x9 hx) ?_
  refine run_ok rkL_does noCut 100 _ _ _ _ _ _ ?_
  refine And.intro (fun _ => ?_) (fun z => absurd z (by decide))
  refine And.intro (fun _ => ?_) (fun z => absurd z (by decide))
  refine And.intro (fun _ => ?_) (fun z => absurd z (by decide))
  refine And.intro (fun _ => ?_) (fun z => absurd z (by decide))
  refine And.intro (fun _ => ?_) (fun z => absurd z (by decide))
  refine And.intro (fun _ => ?_) (fun z => absurd z (by decide))
  refine And.intro (fun z => absurd rfl z) (fun _ => ?_)
  refine x_callX (Cl := RX8) (as := [.int b]) (by decide +kernel : decode cL_does 101 = .ok (.invokevirtual 31, 3)) lkL_31 mcX8_scrap ⟨by decide, by decide⟩ ciX8 rfl (Nat.le_of_ble_eq_true rfl) (by decide) (by decide) hb (k_scrap (κ0 := κ) h θ H hN hK2) (fun v h' q => ?_) (fun E h' q => ?_)
  · obtain ⟨θ', v', κ', a, b, rfl, d, h34, rfl, hre⟩ := q
    refine run_ok rkL_does noCut 100 _ _ _ _ _ _ ?_
    exact And.intro ⟨(show _ ≤ _ by decide), (show _ ≤ _ by decide)⟩ (dq_ret h34 hre a b)
  · obtain ⟨θ', κ', a, b, hre, q⟩ := q
    rcases q with ⟨h34, rfl⟩ | ⟨h34, rfl⟩
    · refine ⟨298, hd_scrap_0, fun q => ?_⟩
      refine run_ok rkL_does noCut 100 _ _ _ _ _ _ ?_
      refine qL_does_300 ?_
      refine run_ok rkL_does noCut 100 _ _ _ _ _ _ ?_
      exact And.intro ⟨(show _ ≤ _ by decide), (show _ ≤ _ by decide)⟩ (dq_ex (dvx1 h34) hre a b)
    · refine ⟨308, hd_scrap_2, fun q => ?_⟩
      refine run_ok rkL_does noCut 100 _ _ _ _ _ _ ?_
      refine qL_does_310 ?_
      refine run_ok rkL_does noCut 100 _ _ _ _ _ _ ?_
      exact And.intro ⟨(show _ ≤ _ by decide), (show _ ≤ _ by decide)⟩ (dq_ex (dvx2 h34) hre a b)
theorem hd_test_0 : HDL mL_does "java/lang/IndexOutOfBoundsException" 115 298 := ⟨[], _, _, "java/lang/IndexOutOfBoundsException", rfl, (fun z hz => nomatch hz), rfl, by decide, cl_does_0, by decide +kernel, rfl⟩
theorem hd_test_2 : HDL mL_does "java/lang/IllegalStateException" 115 308 := ⟨[_, _], _, _, "java/lang/IllegalStateException", rfl, (fun z hz => by
    simp only [List.mem_cons, List.not_mem_nil, or_false] at hz
    rcases hz with rfl | rfl
    · exact Or.inr ⟨by decide, "java/lang/IndexOutOfBoundsException", cl_does_0, by decide +kernel⟩
    · exact Or.inr ⟨by decide, "java/lang/IllegalArgumentException", cl_does_1, by decide +kernel⟩), rfl, by decide, cl_does_2, by decide +kernel, rfl⟩
set_option maxRecDepth 20000 in
theorem w_test {w : W0} {κ : AH} {σ : MS} {nb nw np : Nat} {wb : Nat → Nat} (h : RI κ κ σ nb nw np wb) {b r1 r2 r3 r4 r5 : Int32} : CYH w yL_does mL_does [.ref (tS 4), .int 7, .int b, .int r1, .int r2, .int r3, .int r4, .int r5] κ (dQ (-3000000) (-1000000) 0 κ (mTest σ b)) := by
  intro θ H hN hK
  have h4 : gT κ (tS 4) = 9 := h.2.1.1.t4
  have hb : gT H (θ (tS 4)) = 9 := (hN.1 (tS 4) (by rw [h4]; decide)).1.trans h4
  have hK2 : okK κ [.ref (tS 4), .int b] := hK.sub (by simp)
  refine Ch_of mcL_does (Nat.le_of_ble_eq_true rfl) (fun v hv => by rcases List.mem_map.mp hv with ⟨x9, hx, rfl⟩; rw [cat_rn]; exact cat1 (as := [.ref (tS 4), .int 7, .int b, .int r1, .int r2, .int r3, .int r4, .int r5]) rfl x9 hx) ?_
  refine run_ok rkL_does noCut 100 _ _ _ _ _ _ ?_
  refine And.intro (fun _ => ?_) (fun z => absurd z (by decide))
  refine And.intro (fun _ => ?_) (fun z => absurd z (by decide))
  refine And.intro (fun _ => ?_) (fun z => absurd z (by decide))
  refine And.intro (fun _ => ?_) (fun z => absurd z (by decide))
  refine And.intro (fun _ => ?_) (fun z => absurd z (by decide))
  refine And.intro (fun _ => ?_) (fun z => absurd z (by decide))
  refine And.intro (fun _ => ?_) (fun z => absurd z (by decide))
  refine And.intro (fun z => absurd rfl z) (fun _ => ?_)
  refine x_callX (Cl := RX8) (as := [.int b]) (by decide +kernel : decode cL_does 115 = .ok (.invokevirtual 35, 3)) lkL_35 mcX8_test ⟨by decide, by decide⟩ ciX8 rfl (Nat.le_of_ble_eq_true rfl) (by decide) (by decide) hb (k_test (κ0 := κ) h θ H hN hK2) (fun v h' q => ?_) (fun E h' q => ?_)
  · obtain ⟨θ', v', κ', a, b, rfl, d, h34, rfl, hre⟩ := q
    refine run_ok rkL_does noCut 100 _ _ _ _ _ _ ?_
    exact And.intro ⟨(show _ ≤ _ by decide), (show _ ≤ _ by decide)⟩ (dq_ret h34 hre a b)
  · obtain ⟨θ', κ', a, b, hre, q⟩ := q
    rcases q with ⟨h34, rfl⟩ | ⟨h34, rfl⟩
    · refine ⟨298, hd_test_0, fun q => ?_⟩
      refine run_ok rkL_does noCut 100 _ _ _ _ _ _ ?_
      refine qL_does_300 ?_
      refine run_ok rkL_does noCut 100 _ _ _ _ _ _ ?_
      exact And.intro ⟨(show _ ≤ _ by decide), (show _ ≤ _ by decide)⟩ (dq_ex (dvx1 h34) hre a b)
    · refine ⟨308, hd_test_2, fun q => ?_⟩
      refine run_ok rkL_does noCut 100 _ _ _ _ _ _ ?_
      refine qL_does_310 ?_
      refine run_ok rkL_does noCut 100 _ _ _ _ _ _ ?_
      exact And.intro ⟨(show _ ≤ _ by decide), (show _ ≤ _ by decide)⟩ (dq_ex (dvx2 h34) hre a b)
theorem hd_repair_0 : HDL mL_does "java/lang/IndexOutOfBoundsException" 130 298 := ⟨[], _, _, "java/lang/IndexOutOfBoundsException", rfl, (fun z hz => nomatch hz), rfl, by decide, cl_does_0, by decide +kernel, rfl⟩
theorem hd_repair_2 : HDL mL_does "java/lang/IllegalStateException" 130 308 := ⟨[_, _], _, _, "java/lang/IllegalStateException", rfl, (fun z hz => by
    simp only [List.mem_cons, List.not_mem_nil, or_false] at hz
    rcases hz with rfl | rfl
    · exact Or.inr ⟨by decide, "java/lang/IndexOutOfBoundsException", cl_does_0, by decide +kernel⟩
    · exact Or.inr ⟨by decide, "java/lang/IllegalArgumentException", cl_does_1, by decide +kernel⟩), rfl, by decide, cl_does_2, by decide +kernel, rfl⟩
set_option maxRecDepth 20000 in
theorem w_repair {w : W0} {κ : AH} {σ : MS} {nb nw np : Nat} {wb : Nat → Nat} (h : RI κ κ σ nb nw np wb) {b y r2 r3 r4 r5 : Int32} : CYH w yL_does mL_does [.ref (tS 4), .int 8, .int b, .int y, .int r2, .int r3, .int r4, .int r5] κ (dQ (-3000000) (-1000000) 0 κ (mRep σ b y)) := by
  intro θ H hN hK
  have h4 : gT κ (tS 4) = 9 := h.2.1.1.t4
  have hb : gT H (θ (tS 4)) = 9 := (hN.1 (tS 4) (by rw [h4]; decide)).1.trans h4
  have hK2 : okK κ [.ref (tS 4), .int b, .int y] := hK.sub (by simp)
  refine Ch_of mcL_does (Nat.le_of_ble_eq_true rfl) (fun v hv => by rcases List.mem_map.mp hv with ⟨x9, hx, rfl⟩; rw [cat_rn]; exact cat1 (as := [.ref (tS 4), .int 8, .int b, .int y, .int r2, .int r3, .int r4, .int r5]) rfl x9 hx) ?_
  refine run_ok rkL_does noCut 100 _ _ _ _ _ _ ?_
  refine And.intro (fun _ => ?_) (fun z => absurd z (by decide))
  refine And.intro (fun _ => ?_) (fun z => absurd z (by decide))
  refine And.intro (fun _ => ?_) (fun z => absurd z (by decide))
  refine And.intro (fun _ => ?_) (fun z => absurd z (by decide))
  refine And.intro (fun _ => ?_) (fun z => absurd z (by decide))
  refine And.intro (fun _ => ?_) (fun z => absurd z (by decide))
  refine And.intro (fun _ => ?_) (fun z => absurd z (by decide))
  refine And.intro (fun _ => ?_) (fun z => absurd z (by decide))
  refine And.intro (fun z => absurd rfl z) (fun _ => ?_)
  refine x_callX (Cl := RX8) (as := [.int b, .int y]) (by decide +kernel : decode cL_does 130 = .ok (.invokevirtual 38, 3)) lkL_38 mcX8_repair ⟨by decide, by decide⟩ ciX8 rfl (Nat.le_of_ble_eq_true rfl) (by decide) (by decide) hb (k_repair (κ0 := κ) h θ H hN hK2) (fun v h' q => ?_) (fun E h' q => ?_)
  · obtain ⟨θ', v', κ', a, b, rfl, d, h34, rfl, hre⟩ := q
    refine run_ok rkL_does noCut 100 _ _ _ _ _ _ ?_
    exact And.intro ⟨(show _ ≤ _ by decide), (show _ ≤ _ by decide)⟩ (dq_ret h34 hre a b)
  · obtain ⟨θ', κ', a, b, hre, q⟩ := q
    rcases q with ⟨h34, rfl⟩ | ⟨h34, rfl⟩
    · refine ⟨298, hd_repair_0, fun q => ?_⟩
      refine run_ok rkL_does noCut 100 _ _ _ _ _ _ ?_
      refine qL_does_300 ?_
      refine run_ok rkL_does noCut 100 _ _ _ _ _ _ ?_
      exact And.intro ⟨(show _ ≤ _ by decide), (show _ ≤ _ by decide)⟩ (dq_ex (dvx1 h34) hre a b)
    · refine ⟨308, hd_repair_2, fun q => ?_⟩
      refine run_ok rkL_does noCut 100 _ _ _ _ _ _ ?_
      refine qL_does_310 ?_
      refine run_ok rkL_does noCut 100 _ _ _ _ _ _ ?_
      exact And.intro ⟨(show _ ≤ _ by decide), (show _ ≤ _ by decide)⟩ (dq_ex (dvx2 h34) hre a b)
theorem hd_hole_0 : HDL mL_does "java/lang/IndexOutOfBoundsException" 154 298 := ⟨[], _, _, "java/lang/IndexOutOfBoundsException", rfl, (fun z hz => nomatch hz), rfl, by decide, cl_does_0, by decide +kernel, rfl⟩
theorem hd_hole_2 : HDL mL_does "java/lang/IllegalStateException" 154 308 := ⟨[_, _], _, _, "java/lang/IllegalStateException", rfl, (fun z hz => by
    simp only [List.mem_cons, List.not_mem_nil, or_false] at hz
    rcases hz with rfl | rfl
    · exact Or.inr ⟨by decide, "java/lang/IndexOutOfBoundsException", cl_does_0, by decide +kernel⟩
    · exact Or.inr ⟨by decide, "java/lang/IllegalArgumentException", cl_does_1, by decide +kernel⟩), rfl, by decide, cl_does_2, by decide +kernel, rfl⟩
set_option maxRecDepth 20000 in
theorem w_hole {w : W0} {κ : AH} {σ : MS} {nb nw np : Nat} {wb : Nat → Nat} (h : RI κ κ σ nb nw np wb) {x u r2 r3 r4 r5 : Int32} (hu : u = 0 ∨ u = 1) : CYH w yL_does mL_does [.ref (tS 4), .int 9, .int x, .int u, .int r2, .int r3, .int r4, .int r5] κ (dQ (-3000000) (-1000000) 0 κ (mHole σ x u)) := by
  intro θ H hN hK
  have h4 : gT κ (tS 4) = 9 := h.2.1.1.t4
  have hb : gT H (θ (tS 4)) = 9 := (hN.1 (tS 4) (by rw [h4]; decide)).1.trans h4
  have hK2 : okK κ [.ref (tS 4), .int x, .int u] := hK.sub (by simp)
  refine Ch_of mcL_does (Nat.le_of_ble_eq_true rfl) (fun v hv => by rcases List.mem_map.mp hv with ⟨x9, hx, rfl⟩; rw [cat_rn]; exact cat1 (as := [.ref (tS 4), .int 9, .int x, .int u, .int r2, .int r3, .int r4, .int r5]) rfl x9 hx) ?_
  refine run_ok rkL_does noCut 100 _ _ _ _ _ _ ?_
  refine And.intro (fun _ => ?_) (fun z => absurd z (by decide))
  refine And.intro (fun _ => ?_) (fun z => absurd z (by decide))
  refine And.intro (fun _ => ?_) (fun z => absurd z (by decide))
  refine And.intro (fun _ => ?_) (fun z => absurd z (by decide))
  refine And.intro (fun _ => ?_) (fun z => absurd z (by decide))
  refine And.intro (fun _ => ?_) (fun z => absurd z (by decide))
  refine And.intro (fun _ => ?_) (fun z => absurd z (by decide))
  refine And.intro (fun _ => ?_) (fun z => absurd z (by decide))
  refine And.intro (fun _ => ?_) (fun z => absurd z (by decide))
  refine And.intro (fun z => absurd rfl z) (fun _ => ?_)
  have hX : X w mL_does (QR θ κ (dQ (-3000000) (-1000000) 0 κ (mHole σ x u))) (fun _ _ => False) 0 0 154 [some (.ref (θ (tS 4))), some (.int 9), some (.int x), some (.int u), some (.int r2), some (.int r3), some (.int r4), some (.int r5), none] [.int u, .int x, .ref (θ (tS 4))] H := by
    refine x_callX (Cl := RX8) (as := [.int x, .int u]) (by decide +kernel : decode cL_does 154 = .ok (.invokevirtual 41, 3)) lkL_41 mcX8_hole ⟨by decide, by decide⟩ ciX8 rfl (Nat.le_of_ble_eq_true rfl) (by decide) (by decide) hb (k_hole (κ0 := κ) h θ H hN hK2) (fun v h' q => ?_) (fun E h' q => ?_)
    · obtain ⟨θ', v', κ', a, b, rfl, d, h34, rfl, hre⟩ := q
      refine run_ok rkL_does noCut 100 _ _ _ _ _ _ ?_
      exact And.intro ⟨(show _ ≤ _ by decide), (show _ ≤ _ by decide)⟩ (dq_ret h34 hre a b)
    · obtain ⟨θ', κ', a, b, hre, q⟩ := q
      rcases q with ⟨h34, rfl⟩ | ⟨h34, rfl⟩
      · refine ⟨298, hd_hole_0, fun q => ?_⟩
        refine run_ok rkL_does noCut 100 _ _ _ _ _ _ ?_
        refine qL_does_300 ?_
        refine run_ok rkL_does noCut 100 _ _ _ _ _ _ ?_
        exact And.intro ⟨(show _ ≤ _ by decide), (show _ ≤ _ by decide)⟩ (dq_ex (dvx1 h34) hre a b)
      · refine ⟨308, hd_hole_2, fun q => ?_⟩
        refine run_ok rkL_does noCut 100 _ _ _ _ _ _ ?_
        refine qL_does_310 ?_
        refine run_ok rkL_does noCut 100 _ _ _ _ _ _ ?_
        exact And.intro ⟨(show _ ≤ _ by decide), (show _ ≤ _ by decide)⟩ (dq_ex (dvx2 h34) hre a b)
  rcases hu with rfl | rfl
  · exact And.intro (fun _ => hX) (fun z => absurd z (by decide))
  · exact And.intro (fun z => absurd rfl z) (fun _ => hX)
theorem hd_paint_0 : HDL mL_does "java/lang/IndexOutOfBoundsException" 168 298 := ⟨[], _, _, "java/lang/IndexOutOfBoundsException", rfl, (fun z hz => nomatch hz), rfl, by decide, cl_does_0, by decide +kernel, rfl⟩
theorem hd_paint_2 : HDL mL_does "java/lang/IllegalStateException" 168 308 := ⟨[_, _], _, _, "java/lang/IllegalStateException", rfl, (fun z hz => by
    simp only [List.mem_cons, List.not_mem_nil, or_false] at hz
    rcases hz with rfl | rfl
    · exact Or.inr ⟨by decide, "java/lang/IndexOutOfBoundsException", cl_does_0, by decide +kernel⟩
    · exact Or.inr ⟨by decide, "java/lang/IllegalArgumentException", cl_does_1, by decide +kernel⟩), rfl, by decide, cl_does_2, by decide +kernel, rfl⟩
set_option maxRecDepth 20000 in
theorem w_paint {w : W0} {κ : AH} {σ : MS} {nb nw np : Nat} {wb : Nat → Nat} (h : RI κ κ σ nb nw np wb) {x r1 r2 r3 r4 r5 : Int32} : CYH w yL_does mL_does [.ref (tS 4), .int 10, .int x, .int r1, .int r2, .int r3, .int r4, .int r5] κ (dQ (-3000000) (-1000000) 0 κ (mPai σ x)) := by
  intro θ H hN hK
  have h4 : gT κ (tS 4) = 9 := h.2.1.1.t4
  have hb : gT H (θ (tS 4)) = 9 := (hN.1 (tS 4) (by rw [h4]; decide)).1.trans h4
  have hK2 : okK κ [.ref (tS 4), .int x] := hK.sub (by simp)
  refine Ch_of mcL_does (Nat.le_of_ble_eq_true rfl) (fun v hv => by rcases List.mem_map.mp hv with ⟨x9, hx, rfl⟩; rw [cat_rn]; exact cat1 (as := [.ref (tS 4), .int 10, .int x, .int r1, .int r2, .int r3, .int r4, .int r5]) rfl x9 hx) ?_
  refine run_ok rkL_does noCut 100 _ _ _ _ _ _ ?_
  refine And.intro (fun _ => ?_) (fun z => absurd z (by decide))
  refine And.intro (fun _ => ?_) (fun z => absurd z (by decide))
  refine And.intro (fun _ => ?_) (fun z => absurd z (by decide))
  refine And.intro (fun _ => ?_) (fun z => absurd z (by decide))
  refine And.intro (fun _ => ?_) (fun z => absurd z (by decide))
  refine And.intro (fun _ => ?_) (fun z => absurd z (by decide))
  refine And.intro (fun _ => ?_) (fun z => absurd z (by decide))
  refine And.intro (fun _ => ?_) (fun z => absurd z (by decide))
  refine And.intro (fun _ => ?_) (fun z => absurd z (by decide))
  refine And.intro (fun _ => ?_) (fun z => absurd z (by decide))
  refine And.intro (fun z => absurd rfl z) (fun _ => ?_)
  refine x_callX (Cl := RX8) (as := [.int x]) (by decide +kernel : decode cL_does 168 = .ok (.invokevirtual 45, 3)) lkL_45 mcX8_paint ⟨by decide, by decide⟩ ciX8 rfl (Nat.le_of_ble_eq_true rfl) (by decide) (by decide) hb (k_paint (κ0 := κ) h θ H hN hK2) (fun v h' q => ?_) (fun E h' q => ?_)
  · obtain ⟨θ', v', κ', a, b, rfl, d, h34, rfl, hre⟩ := q
    refine run_ok rkL_does noCut 100 _ _ _ _ _ _ ?_
    exact And.intro ⟨(show _ ≤ _ by decide), (show _ ≤ _ by decide)⟩ (dq_ret h34 hre a b)
  · obtain ⟨θ', κ', a, b, hre, q⟩ := q
    rcases q with ⟨h34, rfl⟩ | ⟨h34, rfl⟩
    · refine ⟨298, hd_paint_0, fun q => ?_⟩
      refine run_ok rkL_does noCut 100 _ _ _ _ _ _ ?_
      refine qL_does_300 ?_
      refine run_ok rkL_does noCut 100 _ _ _ _ _ _ ?_
      exact And.intro ⟨(show _ ≤ _ by decide), (show _ ≤ _ by decide)⟩ (dq_ex (dvx1 h34) hre a b)
    · refine ⟨308, hd_paint_2, fun q => ?_⟩
      refine run_ok rkL_does noCut 100 _ _ _ _ _ _ ?_
      refine qL_does_310 ?_
      refine run_ok rkL_does noCut 100 _ _ _ _ _ _ ?_
      exact And.intro ⟨(show _ ≤ _ by decide), (show _ ≤ _ by decide)⟩ (dq_ex (dvx2 h34) hre a b)
theorem hd_fit_0 : HDL mL_does "java/lang/IndexOutOfBoundsException" 183 298 := ⟨[], _, _, "java/lang/IndexOutOfBoundsException", rfl, (fun z hz => nomatch hz), rfl, by decide, cl_does_0, by decide +kernel, rfl⟩
theorem hd_fit_1 : HDL mL_does "java/lang/IllegalArgumentException" 183 303 := ⟨[_], _, _, "java/lang/IllegalArgumentException", rfl, (fun z hz => by
    simp only [List.mem_cons, List.not_mem_nil, or_false] at hz
    subst hz
    exact Or.inr ⟨by decide, "java/lang/IndexOutOfBoundsException", cl_does_0, by decide +kernel⟩), rfl, by decide, cl_does_1, by decide +kernel, rfl⟩
theorem hd_fit_2 : HDL mL_does "java/lang/IllegalStateException" 183 308 := ⟨[_, _], _, _, "java/lang/IllegalStateException", rfl, (fun z hz => by
    simp only [List.mem_cons, List.not_mem_nil, or_false] at hz
    rcases hz with rfl | rfl
    · exact Or.inr ⟨by decide, "java/lang/IndexOutOfBoundsException", cl_does_0, by decide +kernel⟩
    · exact Or.inr ⟨by decide, "java/lang/IllegalArgumentException", cl_does_1, by decide +kernel⟩), rfl, by decide, cl_does_2, by decide +kernel, rfl⟩
set_option maxRecDepth 20000 in
theorem w_fit {w : W0} {κ : AH} {σ : MS} {nb nw np : Nat} {wb : Nat → Nat} (h : RI κ κ σ nb nw np wb) {x t r2 r3 r4 r5 : Int32} : CYH w yL_does mL_does [.ref (tS 4), .int 11, .int x, .int t, .int r2, .int r3, .int r4, .int r5] κ (dQ (-3000000) (-2000000) (-1000000) κ (mFit σ x t)) := by
  intro θ H hN hK
  have h4 : gT κ (tS 4) = 9 := h.2.1.1.t4
  have hb : gT H (θ (tS 4)) = 9 := (hN.1 (tS 4) (by rw [h4]; decide)).1.trans h4
  have hK2 : okK κ [.ref (tS 4), .int x, .int t] := hK.sub (by simp)
  refine Ch_of mcL_does (Nat.le_of_ble_eq_true rfl) (fun v hv => by rcases List.mem_map.mp hv with ⟨x9, hx, rfl⟩; rw [cat_rn]; exact cat1 (as := [.ref (tS 4), .int 11, .int x, .int t, .int r2, .int r3, .int r4, .int r5]) rfl x9 hx) ?_
  refine run_ok rkL_does noCut 100 _ _ _ _ _ _ ?_
  refine And.intro (fun _ => ?_) (fun z => absurd z (by decide))
  refine And.intro (fun _ => ?_) (fun z => absurd z (by decide))
  refine And.intro (fun _ => ?_) (fun z => absurd z (by decide))
  refine And.intro (fun _ => ?_) (fun z => absurd z (by decide))
  refine And.intro (fun _ => ?_) (fun z => absurd z (by decide))
  refine And.intro (fun _ => ?_) (fun z => absurd z (by decide))
  refine And.intro (fun _ => ?_) (fun z => absurd z (by decide))
  refine And.intro (fun _ => ?_) (fun z => absurd z (by decide))
  refine And.intro (fun _ => ?_) (fun z => absurd z (by decide))
  refine And.intro (fun _ => ?_) (fun z => absurd z (by decide))
  refine And.intro (fun _ => ?_) (fun z => absurd z (by decide))
  refine And.intro (fun z => absurd rfl z) (fun _ => ?_)
  refine x_callX (Cl := RX8) (as := [.int x, .int t]) (by decide +kernel : decode cL_does 183 = .ok (.invokevirtual 48, 3)) lkL_48 mcX8_fit ⟨by decide, by decide⟩ ciX8 rfl (Nat.le_of_ble_eq_true rfl) (by decide) (by decide) hb (k_fit (κ0 := κ) h θ H hN hK2) (fun v h' q => ?_) (fun E h' q => ?_)
  · obtain ⟨θ', v', κ', a, b, rfl, d, h34, rfl, hre⟩ := q
    refine run_ok rkL_does noCut 100 _ _ _ _ _ _ ?_
    exact And.intro ⟨(show _ ≤ _ by decide), (show _ ≤ _ by decide)⟩ (dq_ret h34 hre a b)
  · obtain ⟨θ', κ', a, b, hre, q⟩ := q
    rcases q with ⟨h34, rfl⟩ | ⟨h34, rfl⟩ | ⟨h34, rfl⟩
    · refine ⟨298, hd_fit_0, fun q => ?_⟩
      refine run_ok rkL_does noCut 100 _ _ _ _ _ _ ?_
      refine qL_does_300 ?_
      refine run_ok rkL_does noCut 100 _ _ _ _ _ _ ?_
      exact And.intro ⟨(show _ ≤ _ by decide), (show _ ≤ _ by decide)⟩ (dq_ex (dvx1 h34) hre a b)
    · refine ⟨303, hd_fit_1, fun q => ?_⟩
      refine run_ok rkL_does noCut 100 _ _ _ _ _ _ ?_
      refine qL_does_305 ?_
      refine run_ok rkL_does noCut 100 _ _ _ _ _ _ ?_
      exact And.intro ⟨(show _ ≤ _ by decide), (show _ ≤ _ by decide)⟩ (dq_ex (dvx2 h34) hre a b)
    · refine ⟨308, hd_fit_2, fun q => ?_⟩
      refine run_ok rkL_does noCut 100 _ _ _ _ _ _ ?_
      refine qL_does_310 ?_
      refine run_ok rkL_does noCut 100 _ _ _ _ _ _ ?_
      exact And.intro ⟨(show _ ≤ _ by decide), (show _ ≤ _ by decide)⟩ (dq_ex (dvx3 h34) hre a b)
theorem hd_pipe_0 : HDL mL_does "java/lang/IndexOutOfBoundsException" 198 298 := ⟨[], _, _, "java/lang/IndexOutOfBoundsException", rfl, (fun z hz => nomatch hz), rfl, by decide, cl_does_0, by decide +kernel, rfl⟩
theorem hd_pipe_1 : HDL mL_does "java/lang/IllegalArgumentException" 198 303 := ⟨[_], _, _, "java/lang/IllegalArgumentException", rfl, (fun z hz => by
    simp only [List.mem_cons, List.not_mem_nil, or_false] at hz
    subst hz
    exact Or.inr ⟨by decide, "java/lang/IndexOutOfBoundsException", cl_does_0, by decide +kernel⟩), rfl, by decide, cl_does_1, by decide +kernel, rfl⟩
theorem hd_pipe_2 : HDL mL_does "java/lang/IllegalStateException" 198 308 := ⟨[_, _], _, _, "java/lang/IllegalStateException", rfl, (fun z hz => by
    simp only [List.mem_cons, List.not_mem_nil, or_false] at hz
    rcases hz with rfl | rfl
    · exact Or.inr ⟨by decide, "java/lang/IndexOutOfBoundsException", cl_does_0, by decide +kernel⟩
    · exact Or.inr ⟨by decide, "java/lang/IllegalArgumentException", cl_does_1, by decide +kernel⟩), rfl, by decide, cl_does_2, by decide +kernel, rfl⟩
set_option maxRecDepth 20000 in
theorem w_pipe {w : W0} {κ : AH} {σ : MS} {nb nw np : Nat} {wb : Nat → Nat} (h : RI κ κ σ nb nw np wb) {x y r2 r3 r4 r5 : Int32} : CYH w yL_does mL_does [.ref (tS 4), .int 12, .int x, .int y, .int r2, .int r3, .int r4, .int r5] κ (dQ (-3000000) (-2000000) (-1000000) κ (mPip σ x y)) := by
  intro θ H hN hK
  have h4 : gT κ (tS 4) = 9 := h.2.1.1.t4
  have hb : gT H (θ (tS 4)) = 9 := (hN.1 (tS 4) (by rw [h4]; decide)).1.trans h4
  have hK2 : okK κ [.ref (tS 4), .int x, .int y] := hK.sub (by simp)
  refine Ch_of mcL_does (Nat.le_of_ble_eq_true rfl) (fun v hv => by rcases List.mem_map.mp hv with ⟨x9, hx, rfl⟩; rw [cat_rn]; exact cat1 (as := [.ref (tS 4), .int 12, .int x, .int y, .int r2, .int r3, .int r4, .int r5]) rfl x9 hx) ?_
  refine run_ok rkL_does noCut 100 _ _ _ _ _ _ ?_
  refine And.intro (fun _ => ?_) (fun z => absurd z (by decide))
  refine And.intro (fun _ => ?_) (fun z => absurd z (by decide))
  refine And.intro (fun _ => ?_) (fun z => absurd z (by decide))
  refine And.intro (fun _ => ?_) (fun z => absurd z (by decide))
  refine And.intro (fun _ => ?_) (fun z => absurd z (by decide))
  refine And.intro (fun _ => ?_) (fun z => absurd z (by decide))
  refine And.intro (fun _ => ?_) (fun z => absurd z (by decide))
  refine And.intro (fun _ => ?_) (fun z => absurd z (by decide))
  refine And.intro (fun _ => ?_) (fun z => absurd z (by decide))
  refine And.intro (fun _ => ?_) (fun z => absurd z (by decide))
  refine And.intro (fun _ => ?_) (fun z => absurd z (by decide))
  refine And.intro (fun _ => ?_) (fun z => absurd z (by decide))
  refine And.intro (fun z => absurd rfl z) (fun _ => ?_)
  refine x_callX (Cl := RX8) (as := [.int x, .int y]) (by decide +kernel : decode cL_does 198 = .ok (.invokevirtual 51, 3)) lkL_51 mcX8_pipe ⟨by decide, by decide⟩ ciX8 rfl (Nat.le_of_ble_eq_true rfl) (by decide) (by decide) hb (k_pipe (κ0 := κ) h θ H hN hK2) (fun v h' q => ?_) (fun E h' q => ?_)
  · obtain ⟨θ', v', κ', a, b, rfl, d, h34, rfl, hre⟩ := q
    refine run_ok rkL_does noCut 100 _ _ _ _ _ _ ?_
    exact And.intro ⟨(show _ ≤ _ by decide), (show _ ≤ _ by decide)⟩ (dq_ret h34 hre a b)
  · obtain ⟨θ', κ', a, b, hre, q⟩ := q
    rcases q with ⟨h34, rfl⟩ | ⟨h34, rfl⟩ | ⟨h34, rfl⟩
    · refine ⟨298, hd_pipe_0, fun q => ?_⟩
      refine run_ok rkL_does noCut 100 _ _ _ _ _ _ ?_
      refine qL_does_300 ?_
      refine run_ok rkL_does noCut 100 _ _ _ _ _ _ ?_
      exact And.intro ⟨(show _ ≤ _ by decide), (show _ ≤ _ by decide)⟩ (dq_ex (dvx1 h34) hre a b)
    · refine ⟨303, hd_pipe_1, fun q => ?_⟩
      refine run_ok rkL_does noCut 100 _ _ _ _ _ _ ?_
      refine qL_does_305 ?_
      refine run_ok rkL_does noCut 100 _ _ _ _ _ _ ?_
      exact And.intro ⟨(show _ ≤ _ by decide), (show _ ≤ _ by decide)⟩ (dq_ex (dvx2 h34) hre a b)
    · refine ⟨308, hd_pipe_2, fun q => ?_⟩
      refine run_ok rkL_does noCut 100 _ _ _ _ _ _ ?_
      refine qL_does_310 ?_
      refine run_ok rkL_does noCut 100 _ _ _ _ _ _ ?_
      exact And.intro ⟨(show _ ≤ _ by decide), (show _ ≤ _ by decide)⟩ (dq_ex (dvx3 h34) hre a b)
theorem hd_launch_1 : HDL mL_does "java/lang/IllegalArgumentException" 212 303 := ⟨[_], _, _, "java/lang/IllegalArgumentException", rfl, (fun z hz => by
    simp only [List.mem_cons, List.not_mem_nil, or_false] at hz
    subst hz
    exact Or.inr ⟨by decide, "java/lang/IndexOutOfBoundsException", cl_does_0, by decide +kernel⟩), rfl, by decide, cl_does_1, by decide +kernel, rfl⟩
theorem hd_launch_2 : HDL mL_does "java/lang/IllegalStateException" 212 308 := ⟨[_, _], _, _, "java/lang/IllegalStateException", rfl, (fun z hz => by
    simp only [List.mem_cons, List.not_mem_nil, or_false] at hz
    rcases hz with rfl | rfl
    · exact Or.inr ⟨by decide, "java/lang/IndexOutOfBoundsException", cl_does_0, by decide +kernel⟩
    · exact Or.inr ⟨by decide, "java/lang/IllegalArgumentException", cl_does_1, by decide +kernel⟩), rfl, by decide, cl_does_2, by decide +kernel, rfl⟩
set_option maxRecDepth 20000 in
theorem w_launch {w : W0} {κ : AH} {σ : MS} {nb nw np : Nat} {wb : Nat → Nat} (h : RI κ κ σ nb nw np wb) {t r1 r2 r3 r4 r5 : Int32} : CYH w yL_does mL_does [.ref (tS 4), .int 13, .int t, .int r1, .int r2, .int r3, .int r4, .int r5] κ (dQ (-2000000) (-1000000) 0 κ (mLau σ nb nw t)) := by
  intro θ H hN hK
  have h4 : gT κ (tS 4) = 9 := h.2.1.1.t4
  have hb : gT H (θ (tS 4)) = 9 := (hN.1 (tS 4) (by rw [h4]; decide)).1.trans h4
  have hK2 : okK κ [.ref (tS 4), .int t] := hK.sub (by simp)
  refine Ch_of mcL_does (Nat.le_of_ble_eq_true rfl) (fun v hv => by rcases List.mem_map.mp hv with ⟨x9, hx, rfl⟩; rw [cat_rn]; exact cat1 (as := [.ref (tS 4), .int 13, .int t, .int r1, .int r2, .int r3, .int r4, .int r5]) rfl x9 hx) ?_
  refine run_ok rkL_does noCut 100 _ _ _ _ _ _ ?_
  refine And.intro (fun _ => ?_) (fun z => absurd z (by decide))
  refine And.intro (fun _ => ?_) (fun z => absurd z (by decide))
  refine And.intro (fun _ => ?_) (fun z => absurd z (by decide))
  refine And.intro (fun _ => ?_) (fun z => absurd z (by decide))
  refine And.intro (fun _ => ?_) (fun z => absurd z (by decide))
  refine And.intro (fun _ => ?_) (fun z => absurd z (by decide))
  refine And.intro (fun _ => ?_) (fun z => absurd z (by decide))
  refine And.intro (fun _ => ?_) (fun z => absurd z (by decide))
  refine And.intro (fun _ => ?_) (fun z => absurd z (by decide))
  refine And.intro (fun _ => ?_) (fun z => absurd z (by decide))
  refine And.intro (fun _ => ?_) (fun z => absurd z (by decide))
  refine And.intro (fun _ => ?_) (fun z => absurd z (by decide))
  refine And.intro (fun _ => ?_) (fun z => absurd z (by decide))
  refine And.intro (fun z => absurd rfl z) (fun _ => ?_)
  refine x_callX (Cl := RX8) (as := [.int t]) (by decide +kernel : decode cL_does 212 = .ok (.invokevirtual 54, 3)) lkL_54 mcX8_launch ⟨by decide, by decide⟩ ciX8 rfl (Nat.le_of_ble_eq_true rfl) (by decide) (by decide) hb (k_launch (κ0 := κ) h θ H hN hK2) (fun v h' q => ?_) (fun E h' q => ?_)
  · obtain ⟨θ', v', κ', a, b, rfl, d, h34, rfl, hre⟩ := q
    refine run_ok rkL_does noCut 100 _ _ _ _ _ _ ?_
    exact And.intro ⟨(show _ ≤ _ by decide), (show _ ≤ _ by decide)⟩ (dq_ret h34 hre a b)
  · obtain ⟨θ', κ', a, b, hre, q⟩ := q
    rcases q with ⟨h34, rfl⟩ | ⟨h34, rfl⟩
    · refine ⟨303, hd_launch_1, fun q => ?_⟩
      refine run_ok rkL_does noCut 100 _ _ _ _ _ _ ?_
      refine qL_does_305 ?_
      refine run_ok rkL_does noCut 100 _ _ _ _ _ _ ?_
      exact And.intro ⟨(show _ ≤ _ by decide), (show _ ≤ _ by decide)⟩ (dq_ex (dvx1 h34) hre a b)
    · refine ⟨308, hd_launch_2, fun q => ?_⟩
      refine run_ok rkL_does noCut 100 _ _ _ _ _ _ ?_
      refine qL_does_310 ?_
      refine run_ok rkL_does noCut 100 _ _ _ _ _ _ ?_
      exact And.intro ⟨(show _ ≤ _ by decide), (show _ ≤ _ by decide)⟩ (dq_ex (dvx2 h34) hre a b)
theorem hd_whyNot_0 : HDL mL_does "java/lang/IndexOutOfBoundsException" 226 298 := ⟨[], _, _, "java/lang/IndexOutOfBoundsException", rfl, (fun z hz => nomatch hz), rfl, by decide, cl_does_0, by decide +kernel, rfl⟩
set_option maxRecDepth 20000 in
theorem w_whyNot {w : W0} {κ : AH} {σ : MS} {nb nw np : Nat} {wb : Nat → Nat} (h : RI κ κ σ nb nw np wb) {b r1 r2 r3 r4 r5 : Int32} : CYH w yL_does mL_does [.ref (tS 4), .int 14, .int b, .int r1, .int r2, .int r3, .int r4, .int r5] κ (dQ (-3000000) 0 0 κ (mWhy σ b)) := by
  intro θ H hN hK
  have h4 : gT κ (tS 4) = 9 := h.2.1.1.t4
  have hb : gT H (θ (tS 4)) = 9 := (hN.1 (tS 4) (by rw [h4]; decide)).1.trans h4
  have hK2 : okK κ [.ref (tS 4), .int b] := hK.sub (by simp)
  refine Ch_of mcL_does (Nat.le_of_ble_eq_true rfl) (fun v hv => by rcases List.mem_map.mp hv with ⟨x9, hx, rfl⟩; rw [cat_rn]; exact cat1 (as := [.ref (tS 4), .int 14, .int b, .int r1, .int r2, .int r3, .int r4, .int r5]) rfl x9 hx) ?_
  refine run_ok rkL_does noCut 100 _ _ _ _ _ _ ?_
  refine And.intro (fun _ => ?_) (fun z => absurd z (by decide))
  refine And.intro (fun _ => ?_) (fun z => absurd z (by decide))
  refine And.intro (fun _ => ?_) (fun z => absurd z (by decide))
  refine And.intro (fun _ => ?_) (fun z => absurd z (by decide))
  refine And.intro (fun _ => ?_) (fun z => absurd z (by decide))
  refine And.intro (fun _ => ?_) (fun z => absurd z (by decide))
  refine And.intro (fun _ => ?_) (fun z => absurd z (by decide))
  refine And.intro (fun _ => ?_) (fun z => absurd z (by decide))
  refine And.intro (fun _ => ?_) (fun z => absurd z (by decide))
  refine And.intro (fun _ => ?_) (fun z => absurd z (by decide))
  refine And.intro (fun _ => ?_) (fun z => absurd z (by decide))
  refine And.intro (fun _ => ?_) (fun z => absurd z (by decide))
  refine And.intro (fun _ => ?_) (fun z => absurd z (by decide))
  refine And.intro (fun _ => ?_) (fun z => absurd z (by decide))
  refine And.intro (fun z => absurd rfl z) (fun _ => ?_)
  refine x_callX (Cl := RX8) (as := [.int b]) (by decide +kernel : decode cL_does 226 = .ok (.invokevirtual 57, 3)) lkL_57 mcX8_whyNot ⟨by decide, by decide⟩ ciX8 rfl (Nat.le_of_ble_eq_true rfl) (by decide) (by decide) hb (k_whyNot (κ0 := κ) h θ H hN hK2) (fun v h' q => ?_) (fun E h' q => ?_)
  · obtain ⟨θ', v', κ', a, b, rfl, d, h34, rfl, hre⟩ := q
    refine run_ok rkL_does noCut 100 _ _ _ _ _ _ ?_
    exact And.intro ⟨(show _ ≤ _ by decide), (show _ ≤ _ by decide)⟩ (dq_ret h34 hre a b)
  · obtain ⟨θ', κ', a, b, hre, q⟩ := q
    rcases q with ⟨h34, rfl⟩
    · refine ⟨298, hd_whyNot_0, fun q => ?_⟩
      refine run_ok rkL_does noCut 100 _ _ _ _ _ _ ?_
      refine qL_does_300 ?_
      refine run_ok rkL_does noCut 100 _ _ _ _ _ _ ?_
      exact And.intro ⟨(show _ ≤ _ by decide), (show _ ≤ _ by decide)⟩ (dq_ex (dvx1 h34) hre a b)
theorem hd_told_0 : HDL mL_does "java/lang/IndexOutOfBoundsException" 241 298 := ⟨[], _, _, "java/lang/IndexOutOfBoundsException", rfl, (fun z hz => nomatch hz), rfl, by decide, cl_does_0, by decide +kernel, rfl⟩
theorem hd_told_1 : HDL mL_does "java/lang/IllegalArgumentException" 241 303 := ⟨[_], _, _, "java/lang/IllegalArgumentException", rfl, (fun z hz => by
    simp only [List.mem_cons, List.not_mem_nil, or_false] at hz
    subst hz
    exact Or.inr ⟨by decide, "java/lang/IndexOutOfBoundsException", cl_does_0, by decide +kernel⟩), rfl, by decide, cl_does_1, by decide +kernel, rfl⟩
set_option maxRecDepth 20000 in
theorem w_told {w : W0} {κ : AH} {σ : MS} {nb nw np : Nat} {wb : Nat → Nat} (h : RI κ κ σ nb nw np wb) {b q0 r2 r3 r4 r5 : Int32} : CYH w yL_does mL_does [.ref (tS 4), .int 15, .int b, .int q0, .int r2, .int r3, .int r4, .int r5] κ (dQ (-3000000) (-2000000) 0 κ (mTold σ b q0)) := by
  intro θ H hN hK
  have h4 : gT κ (tS 4) = 9 := h.2.1.1.t4
  have hb : gT H (θ (tS 4)) = 9 := (hN.1 (tS 4) (by rw [h4]; decide)).1.trans h4
  have hK2 : okK κ [.ref (tS 4), .int b, .int q0] := hK.sub (by simp)
  refine Ch_of mcL_does (Nat.le_of_ble_eq_true rfl) (fun v hv => by rcases List.mem_map.mp hv with ⟨x9, hx, rfl⟩; rw [cat_rn]; exact cat1 (as := [.ref (tS 4), .int 15, .int b, .int q0, .int r2, .int r3, .int r4, .int r5]) rfl x9 hx) ?_
  refine run_ok rkL_does noCut 100 _ _ _ _ _ _ ?_
  refine And.intro (fun _ => ?_) (fun z => absurd z (by decide))
  refine And.intro (fun _ => ?_) (fun z => absurd z (by decide))
  refine And.intro (fun _ => ?_) (fun z => absurd z (by decide))
  refine And.intro (fun _ => ?_) (fun z => absurd z (by decide))
  refine And.intro (fun _ => ?_) (fun z => absurd z (by decide))
  refine And.intro (fun _ => ?_) (fun z => absurd z (by decide))
  refine And.intro (fun _ => ?_) (fun z => absurd z (by decide))
  refine And.intro (fun _ => ?_) (fun z => absurd z (by decide))
  refine And.intro (fun _ => ?_) (fun z => absurd z (by decide))
  refine And.intro (fun _ => ?_) (fun z => absurd z (by decide))
  refine And.intro (fun _ => ?_) (fun z => absurd z (by decide))
  refine And.intro (fun _ => ?_) (fun z => absurd z (by decide))
  refine And.intro (fun _ => ?_) (fun z => absurd z (by decide))
  refine And.intro (fun _ => ?_) (fun z => absurd z (by decide))
  refine And.intro (fun _ => ?_) (fun z => absurd z (by decide))
  refine And.intro (fun z => absurd rfl z) (fun _ => ?_)
  refine x_callX (Cl := RX8) (as := [.int b, .int q0]) (by decide +kernel : decode cL_does 241 = .ok (.invokevirtual 60, 3)) lkL_60 mcX8_told ⟨by decide, by decide⟩ ciX8 rfl (Nat.le_of_ble_eq_true rfl) (by decide) (by decide) hb (k_told (κ0 := κ) h θ H hN hK2) (fun v h' q => ?_) (fun E h' q => ?_)
  · obtain ⟨θ', v', κ', a, b, rfl, d, h34, rfl, hre⟩ := q
    refine run_ok rkL_does noCut 100 _ _ _ _ _ _ ?_
    exact And.intro ⟨(show _ ≤ _ by decide), (show _ ≤ _ by decide)⟩ (dq_ret h34 hre a b)
  · obtain ⟨θ', κ', a, b, hre, q⟩ := q
    rcases q with ⟨h34, rfl⟩ | ⟨h34, rfl⟩
    · refine ⟨298, hd_told_0, fun q => ?_⟩
      refine run_ok rkL_does noCut 100 _ _ _ _ _ _ ?_
      refine qL_does_300 ?_
      refine run_ok rkL_does noCut 100 _ _ _ _ _ _ ?_
      exact And.intro ⟨(show _ ≤ _ by decide), (show _ ≤ _ by decide)⟩ (dq_ex (dvx1 h34) hre a b)
    · refine ⟨303, hd_told_1, fun q => ?_⟩
      refine run_ok rkL_does noCut 100 _ _ _ _ _ _ ?_
      refine qL_does_305 ?_
      refine run_ok rkL_does noCut 100 _ _ _ _ _ _ ?_
      exact And.intro ⟨(show _ ≤ _ by decide), (show _ ≤ _ by decide)⟩ (dq_ex (dvx2 h34) hre a b)
theorem hd_weld_0 : HDL mL_does "java/lang/IndexOutOfBoundsException" 256 298 := ⟨[], _, _, "java/lang/IndexOutOfBoundsException", rfl, (fun z hz => nomatch hz), rfl, by decide, cl_does_0, by decide +kernel, rfl⟩
theorem hd_weld_1 : HDL mL_does "java/lang/IllegalArgumentException" 256 303 := ⟨[_], _, _, "java/lang/IllegalArgumentException", rfl, (fun z hz => by
    simp only [List.mem_cons, List.not_mem_nil, or_false] at hz
    subst hz
    exact Or.inr ⟨by decide, "java/lang/IndexOutOfBoundsException", cl_does_0, by decide +kernel⟩), rfl, by decide, cl_does_1, by decide +kernel, rfl⟩
set_option maxRecDepth 20000 in
theorem w_weld {w : W0} {κ : AH} {σ : MS} {nb nw np : Nat} {wb : Nat → Nat} (h : RI κ κ σ nb nw np wb) {b q0 r2 r3 r4 r5 : Int32} : CYH w yL_does mL_does [.ref (tS 4), .int 16, .int b, .int q0, .int r2, .int r3, .int r4, .int r5] κ (dQ (-3000000) (-2000000) 0 κ (mWeld σ b q0)) := by
  intro θ H hN hK
  have h4 : gT κ (tS 4) = 9 := h.2.1.1.t4
  have hb : gT H (θ (tS 4)) = 9 := (hN.1 (tS 4) (by rw [h4]; decide)).1.trans h4
  have hK2 : okK κ [.ref (tS 4), .int b, .int q0] := hK.sub (by simp)
  refine Ch_of mcL_does (Nat.le_of_ble_eq_true rfl) (fun v hv => by rcases List.mem_map.mp hv with ⟨x9, hx, rfl⟩; rw [cat_rn]; exact cat1 (as := [.ref (tS 4), .int 16, .int b, .int q0, .int r2, .int r3, .int r4, .int r5]) rfl x9 hx) ?_
  refine run_ok rkL_does noCut 100 _ _ _ _ _ _ ?_
  refine And.intro (fun _ => ?_) (fun z => absurd z (by decide))
  refine And.intro (fun _ => ?_) (fun z => absurd z (by decide))
  refine And.intro (fun _ => ?_) (fun z => absurd z (by decide))
  refine And.intro (fun _ => ?_) (fun z => absurd z (by decide))
  refine And.intro (fun _ => ?_) (fun z => absurd z (by decide))
  refine And.intro (fun _ => ?_) (fun z => absurd z (by decide))
  refine And.intro (fun _ => ?_) (fun z => absurd z (by decide))
  refine And.intro (fun _ => ?_) (fun z => absurd z (by decide))
  refine And.intro (fun _ => ?_) (fun z => absurd z (by decide))
  refine And.intro (fun _ => ?_) (fun z => absurd z (by decide))
  refine And.intro (fun _ => ?_) (fun z => absurd z (by decide))
  refine And.intro (fun _ => ?_) (fun z => absurd z (by decide))
  refine And.intro (fun _ => ?_) (fun z => absurd z (by decide))
  refine And.intro (fun _ => ?_) (fun z => absurd z (by decide))
  refine And.intro (fun _ => ?_) (fun z => absurd z (by decide))
  refine And.intro (fun _ => ?_) (fun z => absurd z (by decide))
  refine And.intro (fun z => absurd rfl z) (fun _ => ?_)
  refine x_callX (Cl := RX8) (as := [.int b, .int q0]) (by decide +kernel : decode cL_does 256 = .ok (.invokevirtual 63, 3)) lkL_63 mcX8_weld ⟨by decide, by decide⟩ ciX8 rfl (Nat.le_of_ble_eq_true rfl) (by decide) (by decide) hb (k_weld (κ0 := κ) h θ H hN hK2) (fun v h' q => ?_) (fun E h' q => ?_)
  · obtain ⟨θ', v', κ', a, b, rfl, d, h34, rfl, hre⟩ := q
    refine run_ok rkL_does noCut 100 _ _ _ _ _ _ ?_
    exact And.intro ⟨(show _ ≤ _ by decide), (show _ ≤ _ by decide)⟩ (dq_ret h34 hre a b)
  · obtain ⟨θ', κ', a, b, hre, q⟩ := q
    rcases q with ⟨h34, rfl⟩ | ⟨h34, rfl⟩
    · refine ⟨298, hd_weld_0, fun q => ?_⟩
      refine run_ok rkL_does noCut 100 _ _ _ _ _ _ ?_
      refine qL_does_300 ?_
      refine run_ok rkL_does noCut 100 _ _ _ _ _ _ ?_
      exact And.intro ⟨(show _ ≤ _ by decide), (show _ ≤ _ by decide)⟩ (dq_ex (dvx1 h34) hre a b)
    · refine ⟨303, hd_weld_1, fun q => ?_⟩
      refine run_ok rkL_does noCut 100 _ _ _ _ _ _ ?_
      refine qL_does_305 ?_
      refine run_ok rkL_does noCut 100 _ _ _ _ _ _ ?_
      exact And.intro ⟨(show _ ≤ _ by decide), (show _ ≤ _ by decide)⟩ (dq_ex (dvx2 h34) hre a b)
theorem hd_cell_0 : HDL mL_does "java/lang/IndexOutOfBoundsException" 271 298 := ⟨[], _, _, "java/lang/IndexOutOfBoundsException", rfl, (fun z hz => nomatch hz), rfl, by decide, cl_does_0, by decide +kernel, rfl⟩
theorem hd_cell_1 : HDL mL_does "java/lang/IllegalArgumentException" 271 303 := ⟨[_], _, _, "java/lang/IllegalArgumentException", rfl, (fun z hz => by
    simp only [List.mem_cons, List.not_mem_nil, or_false] at hz
    subst hz
    exact Or.inr ⟨by decide, "java/lang/IndexOutOfBoundsException", cl_does_0, by decide +kernel⟩), rfl, by decide, cl_does_1, by decide +kernel, rfl⟩
set_option maxRecDepth 20000 in
theorem w_cell {w : W0} {κ : AH} {σ : MS} {nb nw np : Nat} {wb : Nat → Nat} (h : RI κ κ σ nb nw np wb) {x q0 r2 r3 r4 r5 : Int32} : CYH w yL_does mL_does [.ref (tS 4), .int 17, .int x, .int q0, .int r2, .int r3, .int r4, .int r5] κ (dQ (-3000000) (-2000000) 0 κ (mCell σ x q0)) := by
  intro θ H hN hK
  have h4 : gT κ (tS 4) = 9 := h.2.1.1.t4
  have hb : gT H (θ (tS 4)) = 9 := (hN.1 (tS 4) (by rw [h4]; decide)).1.trans h4
  have hK2 : okK κ [.ref (tS 4), .int x, .int q0] := hK.sub (by simp)
  refine Ch_of mcL_does (Nat.le_of_ble_eq_true rfl) (fun v hv => by rcases List.mem_map.mp hv with ⟨x9, hx, rfl⟩; rw [cat_rn]; exact cat1 (as := [.ref (tS 4), .int 17, .int x, .int q0, .int r2, .int r3, .int r4, .int r5]) rfl x9 hx) ?_
  refine run_ok rkL_does noCut 100 _ _ _ _ _ _ ?_
  refine And.intro (fun _ => ?_) (fun z => absurd z (by decide))
  refine And.intro (fun _ => ?_) (fun z => absurd z (by decide))
  refine And.intro (fun _ => ?_) (fun z => absurd z (by decide))
  refine And.intro (fun _ => ?_) (fun z => absurd z (by decide))
  refine And.intro (fun _ => ?_) (fun z => absurd z (by decide))
  refine And.intro (fun _ => ?_) (fun z => absurd z (by decide))
  refine And.intro (fun _ => ?_) (fun z => absurd z (by decide))
  refine And.intro (fun _ => ?_) (fun z => absurd z (by decide))
  refine And.intro (fun _ => ?_) (fun z => absurd z (by decide))
  refine And.intro (fun _ => ?_) (fun z => absurd z (by decide))
  refine And.intro (fun _ => ?_) (fun z => absurd z (by decide))
  refine And.intro (fun _ => ?_) (fun z => absurd z (by decide))
  refine And.intro (fun _ => ?_) (fun z => absurd z (by decide))
  refine And.intro (fun _ => ?_) (fun z => absurd z (by decide))
  refine And.intro (fun _ => ?_) (fun z => absurd z (by decide))
  refine And.intro (fun _ => ?_) (fun z => absurd z (by decide))
  refine And.intro (fun _ => ?_) (fun z => absurd z (by decide))
  refine And.intro (fun z => absurd rfl z) (fun _ => ?_)
  refine x_callX (Cl := RX8) (as := [.int x, .int q0]) (by decide +kernel : decode cL_does 271 = .ok (.invokevirtual 66, 3)) lkL_66 mcX8_cell ⟨by decide, by decide⟩ ciX8 rfl (Nat.le_of_ble_eq_true rfl) (by decide) (by decide) hb (k_cell (κ0 := κ) h θ H hN hK2) (fun v h' q => ?_) (fun E h' q => ?_)
  · obtain ⟨θ', v', κ', a, b, rfl, d, h34, rfl, hre⟩ := q
    refine run_ok rkL_does noCut 100 _ _ _ _ _ _ ?_
    exact And.intro ⟨(show _ ≤ _ by decide), (show _ ≤ _ by decide)⟩ (dq_ret h34 hre a b)
  · obtain ⟨θ', κ', a, b, hre, q⟩ := q
    rcases q with ⟨h34, rfl⟩ | ⟨h34, rfl⟩
    · refine ⟨298, hd_cell_0, fun q => ?_⟩
      refine run_ok rkL_does noCut 100 _ _ _ _ _ _ ?_
      refine qL_does_300 ?_
      refine run_ok rkL_does noCut 100 _ _ _ _ _ _ ?_
      exact And.intro ⟨(show _ ≤ _ by decide), (show _ ≤ _ by decide)⟩ (dq_ex (dvx1 h34) hre a b)
    · refine ⟨303, hd_cell_1, fun q => ?_⟩
      refine run_ok rkL_does noCut 100 _ _ _ _ _ _ ?_
      refine qL_does_305 ?_
      refine run_ok rkL_does noCut 100 _ _ _ _ _ _ ?_
      exact And.intro ⟨(show _ ≤ _ by decide), (show _ ≤ _ by decide)⟩ (dq_ex (dvx2 h34) hre a b)
theorem hd_roomAt_0 : HDL mL_does "java/lang/IndexOutOfBoundsException" 286 298 := ⟨[], _, _, "java/lang/IndexOutOfBoundsException", rfl, (fun z hz => nomatch hz), rfl, by decide, cl_does_0, by decide +kernel, rfl⟩
set_option maxRecDepth 20000 in
theorem w_roomAt {w : W0} {κ : AH} {σ : MS} {nb nw np : Nat} {wb : Nat → Nat} (h : RI κ κ σ nb nw np wb) {p q0 r2 r3 r4 r5 : Int32} : CYH w yL_does mL_does [.ref (tS 4), .int 18, .int p, .int q0, .int r2, .int r3, .int r4, .int r5] κ (dQ (-3000000) 0 0 κ (mRat σ p q0)) := by
  intro θ H hN hK
  have h4 : gT κ (tS 4) = 9 := h.2.1.1.t4
  have hb : gT H (θ (tS 4)) = 9 := (hN.1 (tS 4) (by rw [h4]; decide)).1.trans h4
  have hK2 : okK κ [.ref (tS 4), .int p, .int q0] := hK.sub (by simp)
  refine Ch_of mcL_does (Nat.le_of_ble_eq_true rfl) (fun v hv => by rcases List.mem_map.mp hv with ⟨x9, hx, rfl⟩; rw [cat_rn]; exact cat1 (as := [.ref (tS 4), .int 18, .int p, .int q0, .int r2, .int r3, .int r4, .int r5]) rfl x9 hx) ?_
  refine run_ok rkL_does noCut 100 _ _ _ _ _ _ ?_
  refine And.intro (fun _ => ?_) (fun z => absurd z (by decide))
  refine And.intro (fun _ => ?_) (fun z => absurd z (by decide))
  refine And.intro (fun _ => ?_) (fun z => absurd z (by decide))
  refine And.intro (fun _ => ?_) (fun z => absurd z (by decide))
  refine And.intro (fun _ => ?_) (fun z => absurd z (by decide))
  refine And.intro (fun _ => ?_) (fun z => absurd z (by decide))
  refine And.intro (fun _ => ?_) (fun z => absurd z (by decide))
  refine And.intro (fun _ => ?_) (fun z => absurd z (by decide))
  refine And.intro (fun _ => ?_) (fun z => absurd z (by decide))
  refine And.intro (fun _ => ?_) (fun z => absurd z (by decide))
  refine And.intro (fun _ => ?_) (fun z => absurd z (by decide))
  refine And.intro (fun _ => ?_) (fun z => absurd z (by decide))
  refine And.intro (fun _ => ?_) (fun z => absurd z (by decide))
  refine And.intro (fun _ => ?_) (fun z => absurd z (by decide))
  refine And.intro (fun _ => ?_) (fun z => absurd z (by decide))
  refine And.intro (fun _ => ?_) (fun z => absurd z (by decide))
  refine And.intro (fun _ => ?_) (fun z => absurd z (by decide))
  refine And.intro (fun _ => ?_) (fun z => absurd z (by decide))
  refine And.intro (fun z => absurd rfl z) (fun _ => ?_)
  refine x_callX (Cl := RX8) (as := [.int p, .int q0]) (by decide +kernel : decode cL_does 286 = .ok (.invokevirtual 69, 3)) lkL_69 mcX8_roomAt ⟨by decide, by decide⟩ ciX8 rfl (Nat.le_of_ble_eq_true rfl) (by decide) (by decide) hb (k_roomAt (κ0 := κ) h θ H hN hK2) (fun v h' q => ?_) (fun E h' q => ?_)
  · obtain ⟨θ', v', κ', a, b, rfl, d, h34, rfl, hre⟩ := q
    refine run_ok rkL_does noCut 100 _ _ _ _ _ _ ?_
    exact And.intro ⟨(show _ ≤ _ by decide), (show _ ≤ _ by decide)⟩ (dq_ret h34 hre a b)
  · obtain ⟨θ', κ', a, b, hre, q⟩ := q
    rcases q with ⟨h34, rfl⟩
    · refine ⟨298, hd_roomAt_0, fun q => ?_⟩
      refine run_ok rkL_does noCut 100 _ _ _ _ _ _ ?_
      refine qL_does_300 ?_
      refine run_ok rkL_does noCut 100 _ _ _ _ _ _ ?_
      exact And.intro ⟨(show _ ≤ _ by decide), (show _ ≤ _ by decide)⟩ (dq_ex (dvx1 h34) hre a b)
theorem hd_water_1 : HDL mL_does "java/lang/IllegalArgumentException" 294 303 := ⟨[_], _, _, "java/lang/IllegalArgumentException", rfl, (fun z hz => by
    simp only [List.mem_cons, List.not_mem_nil, or_false] at hz
    subst hz
    exact Or.inr ⟨by decide, "java/lang/IndexOutOfBoundsException", cl_does_0, by decide +kernel⟩), rfl, by decide, cl_does_1, by decide +kernel, rfl⟩
set_option maxRecDepth 20000 in
theorem w_water {w : W0} {κ : AH} {σ : MS} {nb nw np : Nat} {wb : Nat → Nat} (h : RI κ κ σ nb nw np wb) {x r1 r2 r3 r4 r5 : Int32} : CYH w yL_does mL_does [.ref (tS 4), .int 19, .int x, .int r1, .int r2, .int r3, .int r4, .int r5] κ (dQ (-2000000) 0 0 κ (mWater σ x)) := by
  intro θ H hN hK
  have h4 : gT κ (tS 4) = 9 := h.2.1.1.t4
  have hb : gT H (θ (tS 4)) = 9 := (hN.1 (tS 4) (by rw [h4]; decide)).1.trans h4
  have hK2 : okK κ [.ref (tS 4), .int x] := hK.sub (by simp)
  refine Ch_of mcL_does (Nat.le_of_ble_eq_true rfl) (fun v hv => by rcases List.mem_map.mp hv with ⟨x9, hx, rfl⟩; rw [cat_rn]; exact cat1 (as := [.ref (tS 4), .int 19, .int x, .int r1, .int r2, .int r3, .int r4, .int r5]) rfl x9 hx) ?_
  refine run_ok rkL_does noCut 100 _ _ _ _ _ _ ?_
  refine And.intro (fun _ => ?_) (fun z => absurd z (by decide))
  refine And.intro (fun _ => ?_) (fun z => absurd z (by decide))
  refine And.intro (fun _ => ?_) (fun z => absurd z (by decide))
  refine And.intro (fun _ => ?_) (fun z => absurd z (by decide))
  refine And.intro (fun _ => ?_) (fun z => absurd z (by decide))
  refine And.intro (fun _ => ?_) (fun z => absurd z (by decide))
  refine And.intro (fun _ => ?_) (fun z => absurd z (by decide))
  refine And.intro (fun _ => ?_) (fun z => absurd z (by decide))
  refine And.intro (fun _ => ?_) (fun z => absurd z (by decide))
  refine And.intro (fun _ => ?_) (fun z => absurd z (by decide))
  refine And.intro (fun _ => ?_) (fun z => absurd z (by decide))
  refine And.intro (fun _ => ?_) (fun z => absurd z (by decide))
  refine And.intro (fun _ => ?_) (fun z => absurd z (by decide))
  refine And.intro (fun _ => ?_) (fun z => absurd z (by decide))
  refine And.intro (fun _ => ?_) (fun z => absurd z (by decide))
  refine And.intro (fun _ => ?_) (fun z => absurd z (by decide))
  refine And.intro (fun _ => ?_) (fun z => absurd z (by decide))
  refine And.intro (fun _ => ?_) (fun z => absurd z (by decide))
  refine And.intro (fun _ => ?_) (fun z => absurd z (by decide))
  refine x_callX (Cl := RX8) (as := [.int x]) (by decide +kernel : decode cL_does 294 = .ok (.invokevirtual 72, 3)) lkL_72 mcX8_water ⟨by decide, by decide⟩ ciX8 rfl (Nat.le_of_ble_eq_true rfl) (by decide) (by decide) hb (k_water (κ0 := κ) h θ H hN hK2) (fun v h' q => ?_) (fun E h' q => ?_)
  · obtain ⟨θ', v', κ', a, b, rfl, d, h34, rfl, hre⟩ := q
    refine run_ok rkL_does noCut 100 _ _ _ _ _ _ ?_
    exact And.intro ⟨(show _ ≤ _ by decide), (show _ ≤ _ by decide)⟩ (dq_ret h34 hre a b)
  · obtain ⟨θ', κ', a, b, hre, q⟩ := q
    rcases q with ⟨h34, rfl⟩
    · refine ⟨303, hd_water_1, fun q => ?_⟩
      refine run_ok rkL_does noCut 100 _ _ _ _ _ _ ?_
      refine qL_does_305 ?_
      refine run_ok rkL_does noCut 100 _ _ _ _ _ _ ?_
      exact And.intro ⟨(show _ ≤ _ by decide), (show _ ≤ _ by decide)⟩ (dq_ex (dvx1 h34) hre a b)

/-- a call that may throw, where it does not -/
theorem CY_noX {w : W0} {y : MethodName} {M : MI} {as : List Value} {κ : AH} {Q : Option Value → AH → Prop} {QX : String → AH → Prop} (h : CYV w y M as κ Q QX) (hx : ∀ E κ', ¬ QX E κ') : CY w y M as κ Q := by
  intro θ H hN hK
  exact Met_of_vx (h θ H hN hK) (fun E st t z => by obtain ⟨h', ⟨_, κ', _, _, z⟩, -⟩ := z; exact hx _ _ z)
/-- the component's state under the law's arrays -/
theorem PL_D {κ : AH} {p : Nat} {l : LSt} : Dif (fun t => ∃ i, t = tM i) κ (PL κ p l) := fun t ht => ⟨rfl, rfl, fun k => by
  rw [gI_PL]
  by_cases e : lnr p t < 11
  · exact absurd (lnr_tM e) ht
  · rw [if_neg e], fun _ => rfl⟩
theorem RI_m {κ κ' : AH} {σ : MS} {nb nw np : Nat} {wb : Nat → Nat} (D : Dif (fun t => ∃ i, t = tM i) κ κ') (h : RI κ κ σ nb nw np wb) : RI κ' κ' σ nb nw np wb := by
  obtain ⟨I, ⟨G, N, B, W, R, P, H, L⟩, F⟩ := h
  exact ⟨I, ⟨SG_d D (fun i hi z => by obtain ⟨j, hj⟩ := z; exact tS_M.mp hj) G, hNm_d D (by simp [tB_inj, tB_W, tB_R, tB_P, tB_C, tB_S, tW_inj, tW_B, tW_R, tW_P, tW_C, tW_S, tR_inj, tR_B, tR_W, tR_P, tR_C, tR_S, tP_inj, tP_B, tP_W, tP_R, tP_C, tP_S, tC_inj, tC_B, tC_W, tC_R, tC_P, tC_S, tS_inj, tS_B, tS_W, tS_R, tS_P, tS_C, tM_inj, tM_B, tM_W, tM_R, tM_P, tM_C, tM_S, tB_M, tW_M, tR_M, tP_M, tC_M, tS_M]) (by simp [tB_inj, tB_W, tB_R, tB_P, tB_C, tB_S, tW_inj, tW_B, tW_R, tW_P, tW_C, tW_S, tR_inj, tR_B, tR_W, tR_P, tR_C, tR_S, tP_inj, tP_B, tP_W, tP_R, tP_C, tP_S, tC_inj, tC_B, tC_W, tC_R, tC_P, tC_S, tS_inj, tS_B, tS_W, tS_R, tS_P, tS_C, tM_inj, tM_B, tM_W, tM_R, tM_P, tM_C, tM_S, tB_M, tW_M, tR_M, tP_M, tC_M, tS_M]) (by simp [tB_inj, tB_W, tB_R, tB_P, tB_C, tB_S, tW_inj, tW_B, tW_R, tW_P, tW_C, tW_S, tR_inj, tR_B, tR_W, tR_P, tR_C, tR_S, tP_inj, tP_B, tP_W, tP_R, tP_C, tP_S, tC_inj, tC_B, tC_W, tC_R, tC_P, tC_S, tS_inj, tS_B, tS_W, tS_R, tS_P, tS_C, tM_inj, tM_B, tM_W, tM_R, tM_P, tM_C, tM_S, tB_M, tW_M, tR_M, tP_M, tC_M, tS_M]) N, hB_d D (by simp [tB_inj, tB_W, tB_R, tB_P, tB_C, tB_S, tW_inj, tW_B, tW_R, tW_P, tW_C, tW_S, tR_inj, tR_B, tR_W, tR_P, tR_C, tR_S, tP_inj, tP_B, tP_W, tP_R, tP_C, tP_S, tC_inj, tC_B, tC_W, tC_R, tC_P, tC_S, tS_inj, tS_B, tS_W, tS_R, tS_P, tS_C, tM_inj, tM_B, tM_W, tM_R, tM_P, tM_C, tM_S, tB_M, tW_M, tR_M, tP_M, tC_M, tS_M]) (fun i => by simp [tB_inj, tB_W, tB_R, tB_P, tB_C, tB_S, tW_inj, tW_B, tW_R, tW_P, tW_C, tW_S, tR_inj, tR_B, tR_W, tR_P, tR_C, tR_S, tP_inj, tP_B, tP_W, tP_R, tP_C, tP_S, tC_inj, tC_B, tC_W, tC_R, tC_P, tC_S, tS_inj, tS_B, tS_W, tS_R, tS_P, tS_C, tM_inj, tM_B, tM_W, tM_R, tM_P, tM_C, tM_S, tB_M, tW_M, tR_M, tP_M, tC_M, tS_M]) B, hW_d D (by simp [tB_inj, tB_W, tB_R, tB_P, tB_C, tB_S, tW_inj, tW_B, tW_R, tW_P, tW_C, tW_S, tR_inj, tR_B, tR_W, tR_P, tR_C, tR_S, tP_inj, tP_B, tP_W, tP_R, tP_C, tP_S, tC_inj, tC_B, tC_W, tC_R, tC_P, tC_S, tS_inj, tS_B, tS_W, tS_R, tS_P, tS_C, tM_inj, tM_B, tM_W, tM_R, tM_P, tM_C, tM_S, tB_M, tW_M, tR_M, tP_M, tC_M, tS_M]) (fun i => by simp [tB_inj, tB_W, tB_R, tB_P, tB_C, tB_S, tW_inj, tW_B, tW_R, tW_P, tW_C, tW_S, tR_inj, tR_B, tR_W, tR_P, tR_C, tR_S, tP_inj, tP_B, tP_W, tP_R, tP_C, tP_S, tC_inj, tC_B, tC_W, tC_R, tC_P, tC_S, tS_inj, tS_B, tS_W, tS_R, tS_P, tS_C, tM_inj, tM_B, tM_W, tM_R, tM_P, tM_C, tM_S, tB_M, tW_M, tR_M, tP_M, tC_M, tS_M]) W, hRm_d D (by simp [tB_inj, tB_W, tB_R, tB_P, tB_C, tB_S, tW_inj, tW_B, tW_R, tW_P, tW_C, tW_S, tR_inj, tR_B, tR_W, tR_P, tR_C, tR_S, tP_inj, tP_B, tP_W, tP_R, tP_C, tP_S, tC_inj, tC_B, tC_W, tC_R, tC_P, tC_S, tS_inj, tS_B, tS_W, tS_R, tS_P, tS_C, tM_inj, tM_B, tM_W, tM_R, tM_P, tM_C, tM_S, tB_M, tW_M, tR_M, tP_M, tC_M, tS_M]) (fun i hi => by simp [tB_inj, tB_W, tB_R, tB_P, tB_C, tB_S, tW_inj, tW_B, tW_R, tW_P, tW_C, tW_S, tR_inj, tR_B, tR_W, tR_P, tR_C, tR_S, tP_inj, tP_B, tP_W, tP_R, tP_C, tP_S, tC_inj, tC_B, tC_W, tC_R, tC_P, tC_S, tS_inj, tS_B, tS_W, tS_R, tS_P, tS_C, tM_inj, tM_B, tM_W, tM_R, tM_P, tM_C, tM_S, tB_M, tW_M, tR_M, tP_M, tC_M, tS_M]) R, hPi_d D (by simp [tB_inj, tB_W, tB_R, tB_P, tB_C, tB_S, tW_inj, tW_B, tW_R, tW_P, tW_C, tW_S, tR_inj, tR_B, tR_W, tR_P, tR_C, tR_S, tP_inj, tP_B, tP_W, tP_R, tP_C, tP_S, tC_inj, tC_B, tC_W, tC_R, tC_P, tC_S, tS_inj, tS_B, tS_W, tS_R, tS_P, tS_C, tM_inj, tM_B, tM_W, tM_R, tM_P, tM_C, tM_S, tB_M, tW_M, tR_M, tP_M, tC_M, tS_M]) (fun i => by simp [tB_inj, tB_W, tB_R, tB_P, tB_C, tB_S, tW_inj, tW_B, tW_R, tW_P, tW_C, tW_S, tR_inj, tR_B, tR_W, tR_P, tR_C, tR_S, tP_inj, tP_B, tP_W, tP_R, tP_C, tP_S, tC_inj, tC_B, tC_W, tC_R, tC_P, tC_S, tS_inj, tS_B, tS_W, tS_R, tS_P, tS_C, tM_inj, tM_B, tM_W, tM_R, tM_P, tM_C, tM_S, tB_M, tW_M, tR_M, tP_M, tC_M, tS_M]) (fun i => by simp [tB_inj, tB_W, tB_R, tB_P, tB_C, tB_S, tW_inj, tW_B, tW_R, tW_P, tW_C, tW_S, tR_inj, tR_B, tR_W, tR_P, tR_C, tR_S, tP_inj, tP_B, tP_W, tP_R, tP_C, tP_S, tC_inj, tC_B, tC_W, tC_R, tC_P, tC_S, tS_inj, tS_B, tS_W, tS_R, tS_P, tS_C, tM_inj, tM_B, tM_W, tM_R, tM_P, tM_C, tM_S, tB_M, tW_M, tR_M, tP_M, tC_M, tS_M]) P, hHu_d D (by simp [tB_inj, tB_W, tB_R, tB_P, tB_C, tB_S, tW_inj, tW_B, tW_R, tW_P, tW_C, tW_S, tR_inj, tR_B, tR_W, tR_P, tR_C, tR_S, tP_inj, tP_B, tP_W, tP_R, tP_C, tP_S, tC_inj, tC_B, tC_W, tC_R, tC_P, tC_S, tS_inj, tS_B, tS_W, tS_R, tS_P, tS_C, tM_inj, tM_B, tM_W, tM_R, tM_P, tM_C, tM_S, tB_M, tW_M, tR_M, tP_M, tC_M, tS_M]) H, hLe_d D (by simp [tB_inj, tB_W, tB_R, tB_P, tB_C, tB_S, tW_inj, tW_B, tW_R, tW_P, tW_C, tW_S, tR_inj, tR_B, tR_W, tR_P, tR_C, tR_S, tP_inj, tP_B, tP_W, tP_R, tP_C, tP_S, tC_inj, tC_B, tC_W, tC_R, tC_P, tC_S, tS_inj, tS_B, tS_W, tS_R, tS_P, tS_C, tM_inj, tM_B, tM_W, tM_R, tM_P, tM_C, tM_S, tB_M, tW_M, tR_M, tP_M, tC_M, tS_M]) (by simp [tB_inj, tB_W, tB_R, tB_P, tB_C, tB_S, tW_inj, tW_B, tW_R, tW_P, tW_C, tW_S, tR_inj, tR_B, tR_W, tR_P, tR_C, tR_S, tP_inj, tP_B, tP_W, tP_R, tP_C, tP_S, tC_inj, tC_B, tC_W, tC_R, tC_P, tC_S, tS_inj, tS_B, tS_W, tS_R, tS_P, tS_C, tM_inj, tM_B, tM_W, tM_R, tM_P, tM_C, tM_S, tB_M, tW_M, tR_M, tP_M, tC_M, tS_M]) L⟩, FM.refl _⟩

theorem RI_PL {κ : AH} {p : Nat} {l : LSt} {σ : MS} {nb nw np : Nat} {wb : Nat → Nat} (h : RI κ κ σ nb nw np wb) : RI (PL κ p l) (PL κ p l) σ nb nw np wb := RI_m PL_D h
/-- what a call leaves of the law's arrays: all -/
theorem PL_back {κ κ' : AH} {p : Nat} {l : LSt} {σ : MS} (h : RE (PL κ p l) κ' σ) : ∃ κ1, κ' = PL κ1 p l ∧ RE κ1 κ1 σ ∧ ∀ i, gT κ1 (tM i) = gT κ (tM i) ∧ gN κ1 (tM i) = gN κ (tM i) := by
  obtain ⟨nb, nw, np, wb, hI⟩ := h
  refine ⟨κ', PL_of fun a k ha => ?_, ⟨nb, nw, np, wb, hI.1, hI.2.1, FM.refl _⟩, fun i => ⟨(hI.2.2 i).1, (hI.2.2 i).2.1⟩⟩
  obtain ⟨i, rfl⟩ := lnr_tM ha
  rw [(hI.2.2 i).2.2.1 k, gI_PL, if_pos ha]
theorem AK_of {κ κ1 : AH} (h : AK κ) (hk : ∀ i, gT κ1 (tM i) = gT κ (tM i) ∧ gN κ1 (tM i) = gN κ (tM i)) : AK κ1 := fun j hj => ⟨(hk j).1.trans (h j hj).1, (hk j).2.trans (h j hj).2⟩
theorem AF_of {κ κ1 : AH} {p : Nat} (h : AF κ p) (hk : ∀ i, gT κ1 (tM i) = gT κ (tM i) ∧ gN κ1 (tM i) = gN κ (tM i)) : AF κ1 p := ⟨h.1, (hk p).1.trans h.2.1, (hk p).2.trans h.2.2⟩

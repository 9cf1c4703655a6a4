
/-! THE LAW'S FIRST CHECKS on the code, 124..304 -/
def FC (κ : AH) : Prop := ∃ σ wb, RI κ κ σ 0 0 0 wb ∧ Fst σ ∧ AK κ ∧ Cp (lo κ 41) σ 0 0 0 ∧ gT κ (tM 40) = 0 ∧ ∀ i, 50 ≤ i → gT κ (tM i) = 0
theorem FC_next {κ κ' : AH} {σ : MS} {wb : Nat → Nat} {c : Int32} (h : RI κ κ σ 0 0 0 wb ∧ Fst σ ∧ AK κ ∧ Cp (lo κ 41) σ 0 0 0 ∧ gT κ (tM 40) = 0 ∧ ∀ i, 50 ≤ i → gT κ (tM i) = 0) (q : RE κ κ' (upS σ 34 c)) : FC κ' := by
  obtain ⟨hI, hF, A, C, h40, hf⟩ := h
  obtain ⟨nb, nw, np, wb1, I, R, F⟩ := q
  have hre : RE κ' κ' (upS σ 34 c) := ⟨nb, nw, np, wb1, I, R, FM.refl _⟩
  have e : ∀ j, j ≠ 34 → (upS σ 34 c).1 j = σ.1 j := fun j hj => if_neg hj
  obtain ⟨wb2, hI2⟩ := RE_n (a := 0) (b := 0) (c := 0) hre ((e 8 (by decide)).trans hI.1.e8) ((e 18 (by decide)).trans hI.1.e18) ((e 30 (by decide)).trans hI.1.e30) (by decide) (by decide) (by decide)
  have C2 : Cp (lo κ' 41) σ 0 0 0 := Cp_lt C (fun j hj => funext fun k => by
    show (if j < 10 then gI κ' (tM j) k else gI κ' (tM 41) k) = (if j < 10 then gI κ (tM j) k else gI κ (tM 41) k)
    rw [if_pos hj, if_pos hj]
    exact (F j).2.2.1 k)
  exact ⟨upS σ 34 c, wb2, hI2, Fst_34 hF, fun j hj => ⟨(F j).1.trans (A j hj).1, (F j).2.1.trans (A j hj).2⟩, Cp_34 C2, (F 40).1.trans h40, fun i hi => (F i).1.trans (hf i hi)⟩
theorem FC_LwS {κ : AH} (h : FC κ) : LwS 0 κ := by
  obtain ⟨σ, wb, hI, hF, A, C, h40, hf⟩ := h
  exact ⟨σ, 0, 0, 0, wb, hI, A, C, h40, fun i hi => hf i (by omega)⟩
theorem g_hall {w : W0} {κ : AH} (h : FC κ) : ∃ Q : Option Value → AH → Prop, CYH w yL_does mL_does [.ref (tS 4), .int 0, .int 13, .int 1, .int 0, .int 0, .int 0, .int 0] κ Q ∧ ∀ v κ', Q v κ' → v = some (.int (-2000000)) ∧ FC κ' := by
  obtain ⟨σ, wb, hI, hF, hr⟩ := h
  have c := w_hall (w := w) hI (f := 13) (t := 1) (r2 := 0) (r3 := 0) (r4 := 0) (r5 := 0)
  rw [f_hall] at c
  refine ⟨_, c, fun v κ' q => ?_⟩
  obtain ⟨rfl, hre⟩ := q
  exact ⟨by rw [dvx1 (a := (0, upS σ 34 1)) rfl], FC_next ⟨hI, hF, hr⟩ hre⟩
theorem g_crane {w : W0} {κ : AH} (h : FC κ) : ∃ Q : Option Value → AH → Prop, CYH w yL_does mL_does [.ref (tS 4), .int 1, .int (-1), .int 1, .int 0, .int 0, .int 0, .int 0] κ Q ∧ ∀ v κ', Q v κ' → v = some (.int (-3000000)) ∧ FC κ' := by
  obtain ⟨σ, wb, hI, hF, hr⟩ := h
  have c := w_crane (w := w) hI (f := -1) (t := 1) (r2 := 0) (r3 := 0) (r4 := 0) (r5 := 0)
  rw [f_crane] at c
  refine ⟨_, c, fun v κ' q => ?_⟩
  obtain ⟨rfl, hre⟩ := q
  exact ⟨by rw [dvx1 (a := (0, upS σ 34 1)) rfl], FC_next ⟨hI, hF, hr⟩ hre⟩
theorem g_welder {w : W0} {κ : AH} (h : FC κ) : ∃ Q : Option Value → AH → Prop, CYH w yL_does mL_does [.ref (tS 4), .int 2, .int 4, .int 1, .int 0, .int 0, .int 0, .int 0] κ Q ∧ ∀ v κ', Q v κ' → v = some (.int (-3000000)) ∧ FC κ' := by
  obtain ⟨σ, wb, hI, hF, hr⟩ := h
  have c := w_welder (w := w) hI (y := 4) (f := 1) (r2 := 0) (r3 := 0) (r4 := 0) (r5 := 0)
  rw [f_welder] at c
  refine ⟨_, c, fun v κ' q => ?_⟩
  obtain ⟨rfl, hre⟩ := q
  exact ⟨by rw [dvx1 (a := (0, upS σ 34 1)) rfl], FC_next ⟨hI, hF, hr⟩ hre⟩
theorem g_water {w : W0} {κ : AH} (h : FC κ) : ∃ Q : Option Value → AH → Prop, CYH w yL_does mL_does [.ref (tS 4), .int 19, .int 1001, .int 0, .int 0, .int 0, .int 0, .int 0] κ Q ∧ ∀ v κ', Q v κ' → v = some (.int (-2000000)) ∧ FC κ' := by
  obtain ⟨σ, wb, hI, hF, hr⟩ := h
  have c := w_water (w := w) hI (x := 1001) (r1 := 0) (r2 := 0) (r3 := 0) (r4 := 0) (r5 := 0)
  rw [f_water] at c
  refine ⟨_, c, fun v κ' q => ?_⟩
  obtain ⟨rfl, hre⟩ := q
  exact ⟨by rw [dvx1 (a := (0, upS σ 34 1)) rfl], FC_next ⟨hI, hF, hr⟩ hre⟩
theorem g_lau0 {w : W0} {κ : AH} (h : FC κ) : ∃ Q : Option Value → AH → Prop, CYH w yL_does mL_does [.ref (tS 4), .int 13, .int 0, .int 0, .int 0, .int 0, .int 0, .int 0] κ Q ∧ ∀ v κ', Q v κ' → v = some (.int (-1000000)) ∧ FC κ' := by
  obtain ⟨σ, wb, hI, hF, hr⟩ := h
  have c := w_launch (w := w) hI (t := 0) (r1 := 0) (r2 := 0) (r3 := 0) (r4 := 0) (r5 := 0)
  rw [(f_lau0 hF)] at c
  refine ⟨_, c, fun v κ' q => ?_⟩
  obtain ⟨rfl, hre⟩ := q
  exact ⟨by rw [dvx2 (a := (0, upS σ 34 2)) rfl], FC_next ⟨hI, hF, hr⟩ hre⟩
theorem g_lau1 {w : W0} {κ : AH} (h : FC κ) : ∃ Q : Option Value → AH → Prop, CYH w yL_does mL_does [.ref (tS 4), .int 13, .int 1001, .int 0, .int 0, .int 0, .int 0, .int 0] κ Q ∧ ∀ v κ', Q v κ' → v = some (.int (-2000000)) ∧ FC κ' := by
  obtain ⟨σ, wb, hI, hF, hr⟩ := h
  have c := w_launch (w := w) hI (t := 1001) (r1 := 0) (r2 := 0) (r3 := 0) (r4 := 0) (r5 := 0)
  rw [f_lau1] at c
  refine ⟨_, c, fun v κ' q => ?_⟩
  obtain ⟨rfl, hre⟩ := q
  exact ⟨by rw [dvx1 (a := (0, upS σ 34 1)) rfl], FC_next ⟨hI, hF, hr⟩ hre⟩
theorem g_cell1 {w : W0} {κ : AH} (h : FC κ) : ∃ Q : Option Value → AH → Prop, CYH w yL_does mL_does [.ref (tS 4), .int 17, .int 36, .int 0, .int 0, .int 0, .int 0, .int 0] κ Q ∧ ∀ v κ', Q v κ' → v = some (.int (-3000000)) ∧ FC κ' := by
  obtain ⟨σ, wb, hI, hF, hr⟩ := h
  have c := w_cell (w := w) hI (x := 36) (q0 := 0) (r2 := 0) (r3 := 0) (r4 := 0) (r5 := 0)
  rw [f_cell1] at c
  refine ⟨_, c, fun v κ' q => ?_⟩
  obtain ⟨rfl, hre⟩ := q
  exact ⟨by rw [dvx1 (a := (0, upS σ 34 1)) rfl], FC_next ⟨hI, hF, hr⟩ hre⟩
theorem g_cell2 {w : W0} {κ : AH} (h : FC κ) : ∃ Q : Option Value → AH → Prop, CYH w yL_does mL_does [.ref (tS 4), .int 17, .int 0, .int 5, .int 0, .int 0, .int 0, .int 0] κ Q ∧ ∀ v κ', Q v κ' → v = some (.int (-2000000)) ∧ FC κ' := by
  obtain ⟨σ, wb, hI, hF, hr⟩ := h
  have c := w_cell (w := w) hI (x := 0) (q0 := 5) (r2 := 0) (r3 := 0) (r4 := 0) (r5 := 0)
  rw [f_cell2] at c
  refine ⟨_, c, fun v κ' q => ?_⟩
  obtain ⟨rfl, hre⟩ := q
  exact ⟨by rw [dvx2 (a := (0, upS σ 34 2)) rfl], FC_next ⟨hI, hF, hr⟩ hre⟩
theorem g_paint {w : W0} {κ : AH} (h : FC κ) : ∃ Q : Option Value → AH → Prop, CYH w yL_does mL_does [.ref (tS 4), .int 10, .int 0, .int 0, .int 0, .int 0, .int 0, .int 0] κ Q ∧ ∀ v κ', Q v κ' → v = some (.int (-3000000)) ∧ FC κ' := by
  obtain ⟨σ, wb, hI, hF, hr⟩ := h
  have c := w_paint (w := w) hI (x := 0) (r1 := 0) (r2 := 0) (r3 := 0) (r4 := 0) (r5 := 0)
  rw [(f_paint hF)] at c
  refine ⟨_, c, fun v κ' q => ?_⟩
  obtain ⟨rfl, hre⟩ := q
  exact ⟨by rw [dvx1 (a := (0, upS σ 34 1)) rfl], FC_next ⟨hI, hF, hr⟩ hre⟩
theorem g_centre {w : W0} {κ : AH} (h : FC κ) : CY w yX8_centre mX8_centre [.ref (tS 4)] κ (fun v κ' => v = some (.int 0) ∧ FC κ') := by
  obtain ⟨σ, wb, hI, hF, hr⟩ := h
  refine (k_centre (w := w) hI).mono (fun v κ' q => ?_)
  obtain ⟨-, rfl, hre⟩ := q
  exact ⟨by rw [show ((cenN σ 0, upS σ 34 0) : Int32 × MS).1 = cenN σ 0 from rfl, f_cen hF], FC_next ⟨hI, hF, hr⟩ hre⟩
theorem g_fhr {w : W0} {κ : AH} (h : FC κ) : CY w yX8_firstHour mX8_firstHour [.ref (tS 4)] κ (fun v κ' => v = some (.int (-1)) ∧ FC κ') := by
  obtain ⟨σ, wb, hI, hF, hr⟩ := h
  refine (k_firstHour (w := w) hI).mono (fun v κ' q => ?_)
  obtain ⟨-, rfl, hre⟩ := q
  exact ⟨by rw [show ((fhr σ 0 0 12, upS σ 34 0) : Int32 × MS).1 = fhr σ 0 0 12 from rfl, f_fhr hF], FC_next ⟨hI, hF, hr⟩ hre⟩
theorem FC_ok {κ : AH} (h : FC κ) (L : List Int32) : okK κ (.ref (tS 4) :: L.map Value.int) := by
  obtain ⟨σ, wb, hI, -⟩ := h
  refine okK_4 hI (fun v hv => ?_)
  obtain ⟨x, -, rfl⟩ := List.mem_map.mp hv
  trivial
theorem FC_4 {κ : AH} (h : FC κ) : gT κ (tS 4) = 9 := by
  obtain ⟨σ, wb, hI, -⟩ := h
  exact hI.2.1.1.t4
theorem FC_40 {κ : AH} (h : FC κ) : gT κ (tM 40) = 0 := by
  obtain ⟨σ, wb, -, -, -, -, h40, -⟩ := h
  exact h40
set_option maxRecDepth 20000 in
theorem lw_124 {w : W0} (hw : w.lX < 2 ^ 31) {κ : AH} {kc ns : Nat} (h0 : FC κ) (hkc : kc ≤ 100) (hns : ns ≤ 3000) : YS w lwQ kc ns 124 [some (.ref (tM 40)), some (.ref (tS 4)), some (.ref (tM 0)), some (.ref (tM 1)), some (.ref (tM 2)), some (.ref (tM 3)), some (.ref (tM 4)), some (.ref (tM 5)), some (.ref (tM 6)), some (.ref (tM 7)), some (.ref (tM 8)), some (.ref (tM 9)), some (.int 36), none, none, none, none] [] κ := by
  refine runS_go noCut 80 rfl ?_
  obtain ⟨Q0, c0, p0⟩ := g_hall (w := w) h0
  refine sL_law_133 rfl (Nat.ble_eq_true_of_le (by omega)) (Nat.ble_eq_true_of_le (by omega)) (FC_ok h0 [0, 13, 1, 0, 0, 0, 0]) c0 (fun v κ1 q ho hk => ?_)
  obtain ⟨rfl, h1⟩ := p0 _ _ q
  refine ⟨FC_40 h1, ?_⟩
  refine sL_law_136 ?_
  refine runS_ok noCut 80 _ _ _ _ _ _ ?_
  refine And.intro (fun c => absurd rfl c) (fun _ => ?_)
  obtain ⟨Q1, c1, p1⟩ := g_crane (w := w) h1
  refine sL_law_149 rfl (Nat.ble_eq_true_of_le (by omega)) (Nat.ble_eq_true_of_le (by omega)) (FC_ok h1 [1, (-1), 1, 0, 0, 0, 0]) c1 (fun v κ2 q ho hk => ?_)
  obtain ⟨rfl, h2⟩ := p1 _ _ q
  refine ⟨FC_40 h2, ?_⟩
  refine sL_law_152 ?_
  refine runS_ok noCut 80 _ _ _ _ _ _ ?_
  refine And.intro (fun c => absurd rfl c) (fun _ => ?_)
  obtain ⟨Q2, c2, p2⟩ := g_welder (w := w) h2
  refine sL_law_165 rfl (Nat.ble_eq_true_of_le (by omega)) (Nat.ble_eq_true_of_le (by omega)) (FC_ok h2 [2, 4, 1, 0, 0, 0, 0]) c2 (fun v κ3 q ho hk => ?_)
  obtain ⟨rfl, h3⟩ := p2 _ _ q
  refine ⟨FC_40 h3, ?_⟩
  refine sL_law_168 ?_
  refine runS_ok noCut 80 _ _ _ _ _ _ ?_
  refine And.intro (fun c => absurd rfl c) (fun _ => ?_)
  obtain ⟨Q3, c3, p3⟩ := g_water (w := w) h3
  refine sL_law_184 rfl (Nat.ble_eq_true_of_le (by omega)) (Nat.ble_eq_true_of_le (by omega)) (FC_ok h3 [19, 1001, 0, 0, 0, 0, 0]) c3 (fun v κ4 q ho hk => ?_)
  obtain ⟨rfl, h4⟩ := p3 _ _ q
  refine ⟨FC_40 h4, ?_⟩
  refine sL_law_187 ?_
  refine runS_ok noCut 80 _ _ _ _ _ _ ?_
  refine And.intro (fun c => absurd rfl c) (fun _ => ?_)
  obtain ⟨Q4, c4, p4⟩ := g_lau0 (w := w) h4
  refine sL_law_201 rfl (Nat.ble_eq_true_of_le (by omega)) (Nat.ble_eq_true_of_le (by omega)) (FC_ok h4 [13, 0, 0, 0, 0, 0, 0]) c4 (fun v κ5 q ho hk => ?_)
  obtain ⟨rfl, h5⟩ := p4 _ _ q
  refine ⟨FC_40 h5, ?_⟩
  refine sL_law_204 ?_
  refine runS_ok noCut 80 _ _ _ _ _ _ ?_
  refine And.intro (fun c => absurd rfl c) (fun _ => ?_)
  obtain ⟨Q5, c5, p5⟩ := g_lau1 (w := w) h5
  refine sL_law_220 rfl (Nat.ble_eq_true_of_le (by omega)) (Nat.ble_eq_true_of_le (by omega)) (FC_ok h5 [13, 1001, 0, 0, 0, 0, 0]) c5 (fun v κ6 q ho hk => ?_)
  obtain ⟨rfl, h6⟩ := p5 _ _ q
  refine ⟨FC_40 h6, ?_⟩
  refine sL_law_223 ?_
  refine runS_ok noCut 80 _ _ _ _ _ _ ?_
  refine And.intro (fun c => absurd rfl c) (fun _ => ?_)
  obtain ⟨Q6, c6, p6⟩ := g_cell1 (w := w) h6
  refine sL_law_238 rfl (Nat.ble_eq_true_of_le (by omega)) (Nat.ble_eq_true_of_le (by omega)) (FC_ok h6 [17, 36, 0, 0, 0, 0, 0]) c6 (fun v κ7 q ho hk => ?_)
  obtain ⟨rfl, h7⟩ := p6 _ _ q
  refine ⟨FC_40 h7, ?_⟩
  refine sL_law_241 ?_
  refine runS_ok noCut 80 _ _ _ _ _ _ ?_
  refine And.intro (fun c => absurd rfl c) (fun _ => ?_)
  obtain ⟨Q7, c7, p7⟩ := g_cell2 (w := w) h7
  refine sL_law_255 rfl (Nat.ble_eq_true_of_le (by omega)) (Nat.ble_eq_true_of_le (by omega)) (FC_ok h7 [17, 0, 5, 0, 0, 0, 0]) c7 (fun v κ8 q ho hk => ?_)
  obtain ⟨rfl, h8⟩ := p7 _ _ q
  refine ⟨FC_40 h8, ?_⟩
  refine sL_law_258 ?_
  refine runS_ok noCut 80 _ _ _ _ _ _ ?_
  refine And.intro (fun c => absurd rfl c) (fun _ => ?_)
  obtain ⟨Q8, c8, p8⟩ := g_paint (w := w) h8
  refine sL_law_272 rfl (Nat.ble_eq_true_of_le (by omega)) (Nat.ble_eq_true_of_le (by omega)) (FC_ok h8 [10, 0, 0, 0, 0, 0, 0]) c8 (fun v κ9 q ho hk => ?_)
  obtain ⟨rfl, h9⟩ := p8 _ _ q
  refine ⟨FC_40 h9, ?_⟩
  refine sL_law_275 ?_
  refine runS_ok noCut 80 _ _ _ _ _ _ ?_
  refine And.intro (fun c => absurd rfl c) (fun _ => ?_)
  refine sL_law_281 rfl (Nat.ble_eq_true_of_le (by omega)) (Nat.ble_eq_true_of_le (by omega)) (FC_4 h9) (FC_ok h9 []) (g_centre h9) (fun v κ10 q ho hk => ?_)
  obtain ⟨rfl, h10⟩ := q
  refine ⟨FC_40 h10, ?_⟩
  refine runS_ok noCut 80 _ _ _ _ _ _ ?_
  refine And.intro (fun c => absurd rfl c) (fun _ => ?_)
  refine sL_law_288 rfl (Nat.ble_eq_true_of_le (by omega)) (Nat.ble_eq_true_of_le (by omega)) (FC_4 h10) (FC_ok h10 []) (g_fhr h10) (fun v κ11 q ho hk => ?_)
  obtain ⟨rfl, h11⟩ := q
  refine ⟨FC_40 h11, ?_⟩
  refine runS_ok (fun p => Nat.beq p 305) 80 _ _ _ _ _ _ ?_
  refine And.intro (fun c => absurd rfl c) (fun _ => ?_)
  exact lw_305 hw 64 0 rfl κ11 _ _ none none none (FC_LwS h11) (by omega) (by omega)

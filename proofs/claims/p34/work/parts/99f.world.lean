
/-! THE WORLD AT THE LAW'S ENTRY -/
theorem nw_in : ∀ c ∈ NWl, c ∈ tables_1 := by decide +kernel
theorem nw_ont : ∀ c ∈ NWl, c.onTables = true := by decide +kernel
theorem nc_in : ∀ c ∈ NCl, Cond.not (.castable c.1 c.2) ∈ flatC (Jvm.Cond.and given_1 narrow_1) := by decide +kernel
theorem st_in : ∀ c ∈ STl, Cond.stringRef c.1 c.2.1 c.2.2 ∈ tables_1 := by decide +kernel
theorem st_ex : ∀ c ∈ STl, Cond.exactly (.string c.1 c.2.1) "java/lang/String" ∈ flatC (Jvm.Cond.and given_1 narrow_1) := by decide +kernel
theorem ao_in : ∀ c ∈ AOl, Cond.arrayOver (.object c) ∈ tables_1 := by decide +kernel
theorem len_small {args : Array Value} {s : State} {t : Term} {v : Value} {a : Nat} {cell : Cell} (e1 : (Term.length t).eval args s none [] s = some v) (ha : t.eval args s none [] s = some (.ref a)) (harr : s.arrayAt? a = some cell) : cell.slots.size < 2 ^ 31 := by
  simp only [Term.eval, ha, harr, Option.bind_eq_bind, Option.bind_some] at e1
  by_cases hlt : cell.slots.size < 2147483648
  · exact hlt
  · simp [hlt] at e1
/-- a static row of four ints -/
theorem row_at {args : Array Value} {s : State} {n : String} {f : Nat → Int32} {A : Nat → Prop} (hl : (Cond.laysStatic "Stowfinish" n "[I").before args s = true) (hini : (Cond.initialized "Stowfinish").before args s = true)
    (hao : (Cond.arrayOf (.static "Stowfinish" n "[I") .int).before args s = true) (hln : (Cond.eq (.length (.static "Stowfinish" n "[I")) (.int 4)).before args s = true)
    (h0 : (Cond.eq (.elem (.static "Stowfinish" n "[I") (.int 0)) (.int (f 0))).before args s = true) (h1 : (Cond.eq (.elem (.static "Stowfinish" n "[I") (.int 1)) (.int (f 1))).before args s = true)
    (h2 : (Cond.eq (.elem (.static "Stowfinish" n "[I") (.int 2)) (.int (f 2))).before args s = true) (h3 : (Cond.eq (.elem (.static "Stowfinish" n "[I") (.int 3)) (.int (f 3))).before args s = true)
    (hA : ∀ a : Nat, a < s.heap.size → ¬ A a) : ∃ a : Nat, va_Z "Stowfinish" n "[I" (.ref a) A s s.heap ∧ va_X a 4 f s s.heap ∧ a < s.heap.size := by
  have e1 := Cond.eq_int (n := 4) hln rfl
  obtain ⟨a, cell, ha, harr, hv⟩ := Term.length_spec e1
  obtain ⟨hc, hkn, -, -⟩ := State.arrayAt?_spec harr
  obtain ⟨hof, -⟩ := Cond.arrayOf_spec hao ha hc
  have key : ∀ (j : Int32) (v : Int32), (Cond.eq (.elem (.static "Stowfinish" n "[I") (.int j)) (.int v)).before args s = true → cell.slots[j.toNatClampNeg]? = some (.int v) := by
    intro j v h
    obtain ⟨a', j', cell', g1, g2, g3, -, g5⟩ := Term.elem_spec (Cond.eq_int (n := v) h rfl)
    cases ha.symm.trans g1
    cases harr.symm.trans g3
    cases (Term.int_eval j).symm.trans g2
    exact g5
  have hsz : cell.slots.size = 4 := by
    have h4 : cell.slots.size.toInt32 = 4 := (Value.int.inj hv).symm
    have hb := len_small e1 ha harr
    have h5 : (Nat.toInt32 cell.slots.size).toInt = (4 : Int32).toInt := congrArg Int32.toInt h4
    have h6 : (Nat.toInt32 cell.slots.size).toInt = cell.slots.size := by
      show (nI cell.slots.size).toInt = _
      exact nI_toInt (by omega)
    rw [h6] at h5
    have : (4 : Int32).toInt = 4 := by decide
    omega
  refine ⟨a, va_Zref hl hini ha hA, ⟨cell, hc, hof, hkn, hsz, fun j hj => ?_⟩, (Array.getElem?_eq_some_iff.mp hc).1⟩
  rcases (show j = 0 ∨ j = 1 ∨ j = 2 ∨ j = 3 by omega) with rfl | rfl | rfl | rfl
  · exact key 0 _ h0
  · exact key 1 _ h1
  · exact key 2 _ h2
  · exact key 3 _ h3
theorem str_at {args : Array Value} {s : State} {own tx : String} {k : Nat} (h1 : (Cond.stringRef own k tx).before args s = true) (h2 : (Cond.exactly (.string own k) "java/lang/String").before args s = true) : ∃ a, vk_R own k tx a s := by
  obtain ⟨a, -, -, -, ha, -⟩ := Cond.exactly_spec h2
  exact ⟨a, vk_R.of (A := args) h1 ha⟩
/-- the nine classes -/
theorem cls_at {args : Array Value} {s : State} (hts : ∀ w ∈ TB, w.before args s = true) : ∃ D : va_G, va_K D vwCl [] s := by
  obtain ⟨c0, i0, k0⟩ := u_known (C := RX0) (T := TX0) (N := 10) (n := 10) hts ciX0.2.1 (hts (.instantiable RX0 10) (List.mem_filter.mpr ⟨by decide +kernel, rfl⟩))
  obtain ⟨c1, i1, k1⟩ := u_known (C := RX1) (T := TX1) (N := 3) (n := 3) hts ciX1.2.1 (hts (.instantiable RX1 3) (List.mem_filter.mpr ⟨by decide +kernel, rfl⟩))
  obtain ⟨c2, i2, k2⟩ := u_known (C := RX2) (T := TX2) (N := 3) (n := 3) hts ciX2.2.1 (hts (.instantiable RX2 3) (List.mem_filter.mpr ⟨by decide +kernel, rfl⟩))
  obtain ⟨c3, i3, k3⟩ := u_known (C := RX3) (T := TX3) (N := 1) (n := 1) hts ciX3.2.1 (hts (.instantiable RX3 1) (List.mem_filter.mpr ⟨by decide +kernel, rfl⟩))
  obtain ⟨c4, i4, k4⟩ := u_known (C := RX4) (T := TX4) (N := 7) (n := 7) hts ciX4.2.1 (hts (.instantiable RX4 7) (List.mem_filter.mpr ⟨by decide +kernel, rfl⟩))
  obtain ⟨c5, i5, k5⟩ := u_known (C := RX5) (T := TX5) (N := 1) (n := 1) hts ciX5.2.1 (hts (.instantiable RX5 1) (List.mem_filter.mpr ⟨by decide +kernel, rfl⟩))
  obtain ⟨c6, i6, k6⟩ := u_known (C := RX6) (T := TX6) (N := 5) (n := 5) hts ciX6.2.1 (hts (.instantiable RX6 5) (List.mem_filter.mpr ⟨by decide +kernel, rfl⟩))
  obtain ⟨c7, i7, k7⟩ := u_known (C := RX7) (T := TX7) (N := 2) (n := 2) hts ciX7.2.1 (hts (.instantiable RX7 2) (List.mem_filter.mpr ⟨by decide +kernel, rfl⟩))
  obtain ⟨c8, i8, k8⟩ := u_known (C := RX8) (T := TX8) (N := 15) (n := 15) hts ciX8.2.1 (hts (.instantiable RX8 15) (List.mem_filter.mpr ⟨by decide +kernel, rfl⟩))
  refine ⟨(fun k => match k with
    | 0 => c0
    | 1 => c1
    | 2 => c2
    | 3 => c3
    | 4 => c4
    | 5 => c5
    | 6 => c6
    | 7 => c7
    | _ => c8, fun k => match k with
    | 0 => i0
    | 1 => i1
    | 2 => i2
    | 3 => i3
    | 4 => i4
    | 5 => i5
    | 6 => i6
    | 7 => i7
    | _ => i8), ?_, fun k q h => by simp at h⟩
  intro k q hq
  match k, hq with
  | 0, hq => cases hq; exact k0
  | 1, hq => cases hq; exact k1
  | 2, hq => cases hq; exact k2
  | 3, hq => cases hq; exact k3
  | 4, hq => cases hq; exact k4
  | 5, hq => cases hq; exact k5
  | 6, hq => cases hq; exact k6
  | 7, hq => cases hq; exact k7
  | 8, hq => cases hq; exact k8
  | k + 9, hq => simp [vwCl] at hq
def emH : AH := (fun _ => 0, fun _ => 0, fun _ _ => 0, fun _ _ => none, fun _ _ => 0)


/-! HEAP RULES, CALLS, ENDS, CONTRACTS -/
theorem Em.obj {tys : List (ClassId × FieldType)} {ws : va_W} {h : AH} {a ci : Nat} {ks : List Bool} (hE : Em tys ws h) (ht : gT h a = ci + 1) (hc : clsL[ci]? = some ks) (h10 : ci < 10) : ∃ q0 : Nat, ws[q0]? = some (a, .inr (ci, encF h a 0 ks)) := by
  obtain ⟨q0, e, h1, h2⟩ := hE.1 a (by omega)
  rcases h2 with ⟨ci', ks', g1, g2, g3, g4⟩ | ⟨cA, t0, g1, g2, -, -⟩
  · have hcc : ci' = ci := by omega
    subst hcc
    rw [hc] at g3
    cases g3
    exact ⟨q0, by rw [h1, g4]⟩
  · omega
theorem Em.arr {tys : List (ClassId × FieldType)} {ws : va_W} {h : AH} {a : Nat} (hE : Em tys ws h) (h1 : 11 ≤ gT h a) : ∃ (q0 : Nat) (cA : ClassId) (t0 : Nat), gT h a ≤ 17 ∧ ws[q0]? = some (a, .inl (cA, encA h a)) ∧ tys[t0]? = some (cA, ety (gT h a)) := by
  obtain ⟨q0, e, g1, g2⟩ := hE.1 a (by omega)
  rcases g2 with ⟨ci', ks', g3, g4, -, -⟩ | ⟨cA, t0, g3, g4, g5, g6⟩
  · omega
  · exact ⟨q0, cA, t0, g4, by rw [g1, g6], g5⟩
theorem encA_I {h : AH} {a : Nat} (ht : gT h a = 11) : encA h a = (gN h a, .inl (gI h a)) := by simp [encA, ht]
theorem encA_Z {h : AH} {a : Nat} (ht : gT h a = 12) : encA h a = (gN h a, .inl (gI h a)) := by simp [encA, ht]
theorem encA_L {h : AH} {a : Nat} (ht : gT h a = 13) : encA h a = (gN h a, .inr (.inl (gL h a))) := by simp [encA, ht]
theorem encA_R {h : AH} {a : Nat} (h1 : 14 ≤ gT h a) : encA h a = (gN h a, .inr (.inr (.inr (.inr (gR h a))))) := by
  unfold encA
  split
  · omega
  · omega
  · omega
  · rfl
theorem goodTB {ws : List Cond} (h : ∀ t ∈ ws, t ∈ TB) : GoodIn TB ws := fun t ht => ⟨h t ht, good_of_word (TB_good (h t ht))⟩
section XH
variable {w : W0} {M : MI} {Q : Option Value → AH → Prop} {QX : String → AH → Prop} {kc ns pc : Nat} {L : List (Option Value)} {st : List Value} {h : AH}
theorem x_getI {idx ci kf a : Nat} (hd : decode M.cd pc = .ok (.getfield idx, 3)) (hf : FG M.ow idx ci kf) (hk : (clsL.getD ci [])[kf]? = some false) (ht : gT h a = ci + 1) (k : X w M Q QX kc ns (pc + 3) L (.int (gI h a kf) :: st) h) : X w M Q QX kc ns pc L (.ref a :: st) h := by
  intro p e s m args below meth c H locs tys ws ls C hK hP hD hE hS hB hl
  have C0 := C
  obtain ⟨hx, hb, hml, hr, hlk, hown, hts, hin, htab⟩ := C
  obtain ⟨Cn, T, N, ty, ks, ⟨c1, c2, c3, c4, c5, c6, c7, c8⟩, hkN, hlink⟩ := hf
  obtain ⟨q0, he⟩ := hE.obj ht c5 c7
  refine va_get (D := w.dg) (ci := ci) (v := .int (gI h a kf)) hx hb hts c2 hown hK hP q0 he c1 kf hkN (hts _ hlink) (fun _ z => z) ?_ hd (k p e s m args below meth c H locs tys ws ls C0 hK hP hD hE hS hB hl)
  have hk2 : ks[kf]? = some false := by simpa [List.getD_eq_getElem?_getD, c5] using hk
  simpa using encF_get h a ks 0 kf false hk2
theorem x_getR {idx ci kf a : Nat} (hd : decode M.cd pc = .ok (.getfield idx, 3)) (hf : FG M.ow idx ci kf) (hk : (clsL.getD ci [])[kf]? = some true) (ht : gT h a = ci + 1) (k : X w M Q QX kc ns (pc + 3) L (va_rf (gR h a kf) :: st) h) : X w M Q QX kc ns pc L (.ref a :: st) h := by
  intro p e s m args below meth c H locs tys ws ls C hK hP hD hE hS hB hl
  have C0 := C
  obtain ⟨hx, hb, hml, hr, hlk, hown, hts, hin, htab⟩ := C
  obtain ⟨Cn, T, N, ty, ks, ⟨c1, c2, c3, c4, c5, c6, c7, c8⟩, hkN, hlink⟩ := hf
  obtain ⟨q0, he⟩ := hE.obj ht c5 c7
  refine va_get (D := w.dg) (ci := ci) (v := va_rf (gR h a kf)) hx hb hts c2 hown hK hP q0 he c1 kf hkN (hts _ hlink) (fun _ z => z) ?_ hd (k p e s m args below meth c H locs tys ws ls C0 hK hP hD hE hS hB hl)
  have hk2 : ks[kf]? = some true := by simpa [List.getD_eq_getElem?_getD, c5] using hk
  simpa using encF_get h a ks 0 kf true hk2
theorem Em.putI {tys : List (ClassId × FieldType)} {ws : va_W} {q0 a ci kf : Nat} {v : Int32} {ks : List Bool} {h : AH} (hE : Em tys ws h) (he : ws[q0]? = some (a, .inr (ci, encF h a 0 ks))) (ht : gT h a = ci + 1) (c5 : clsL[ci]? = some ks) (c7 : ci < 10) (hk : ks[kf]? = some false) :
    Em tys (ws.set q0 (a, .inr (ci, (encF h a 0 ks).set kf (.int v)))) (sI h a kf v) := by
  have e := encF_setI (h := h) (a := a) (v := v) ks 0 kf hk
  rw [Nat.zero_add] at e
  rw [e]
  exact hE.upd he (fun _ => rfl) (fun b hb e he => he.cong (h := h) (h' := sI h a kf v) rfl rfl (fun j => by rw [gI_sI, if_neg (fun z => hb z.1)]) (fun _ => rfl) (fun _ => rfl)) (Or.inl ⟨ci, ks, ht, c7, c5, rfl⟩)
theorem Em.putR {tys : List (ClassId × FieldType)} {ws : va_W} {q0 a ci kf : Nat} {v : Option Nat} {ks : List Bool} {h : AH} (hE : Em tys ws h) (he : ws[q0]? = some (a, .inr (ci, encF h a 0 ks))) (ht : gT h a = ci + 1) (c5 : clsL[ci]? = some ks) (c7 : ci < 10) (hk : ks[kf]? = some true) :
    Em tys (ws.set q0 (a, .inr (ci, (encF h a 0 ks).set kf (va_rf v)))) (sR h a kf v) := by
  have e := encF_setR (h := h) (a := a) (v := v) ks 0 kf hk
  rw [Nat.zero_add] at e
  rw [e]
  exact hE.upd he (fun _ => rfl) (fun b hb e he => he.cong (h := h) (h' := sR h a kf v) rfl rfl (fun _ => rfl) (fun j => by rw [gR_sR, if_neg (fun z => hb z.1)]) (fun _ => rfl)) (Or.inl ⟨ci, ks, ht, c7, c5, rfl⟩)
theorem x_putI {idx ci kf a : Nat} {v : Int32} (hd : decode M.cd pc = .ok (.putfield idx, 3)) (hf : FP M.ow idx ci kf false .int) (hk : (clsL.getD ci [])[kf]? = some false) (ht : gT h a = ci + 1) (k : X w M Q QX kc ns (pc + 3) L st (sI h a kf v)) : X w M Q QX kc ns pc L (.int v :: .ref a :: st) h := by
  intro p e s m args below meth c H locs tys ws ls C hK hP hD hE hS hB hl
  have C0 := C
  obtain ⟨hx, hb, hml, hr, hlk, hown, hts, hin, htab⟩ := C
  obtain ⟨Cn, T, N, ty, ks, ⟨c1, c2, c3, c4, c5, c6, c7, c8⟩, hkN, hlink, hfin, hty, hdecl⟩ := hf
  obtain ⟨q0, he⟩ := hE.obj ht c5 c7
  have hk2 : ks[kf]? = some false := by simpa [List.getD_eq_getElem?_getD, c5] using hk
  have hnf : narrow .int (.int v) = .int v ∧ fits .int (.int v) = true := ⟨rfl, rfl⟩
  refine va_put (D := w.dg) (ci := ci) (v := .int v) (ty := .int) hx hb hts c2 ty c3 c4 hown hK hP hD hS q0 he c1 kf hkN (hts _ hlink) (fun _ z => z) hfin (by rw [c3 kf hkN, hty]) hnf.1 hnf.2 (by rw [encF_len, c6]; exact hkN) hd (fun H1 locs1 hP1 hD1 hS1 => ?_)
  exact k p e s m args below meth c H1 locs1 tys _ ls C0 hK hP1 hD1 (hE.putI he ht c5 c7 hk2) hS1 hB hl
theorem x_putZ {idx ci kf a : Nat} {v : Int32} (hd : decode M.cd pc = .ok (.putfield idx, 3)) (hf : FP M.ow idx ci kf false .boolean) (hk : (clsL.getD ci [])[kf]? = some false) (ht : gT h a = ci + 1) (hv : v = 0 ∨ v = 1) (k : X w M Q QX kc ns (pc + 3) L st (sI h a kf v)) : X w M Q QX kc ns pc L (.int v :: .ref a :: st) h := by
  intro p e s m args below meth c H locs tys ws ls C hK hP hD hE hS hB hl
  have C0 := C
  obtain ⟨hx, hb, hml, hr, hlk, hown, hts, hin, htab⟩ := C
  obtain ⟨Cn, T, N, ty, ks, ⟨c1, c2, c3, c4, c5, c6, c7, c8⟩, hkN, hlink, hfin, hty, hdecl⟩ := hf
  obtain ⟨q0, he⟩ := hE.obj ht c5 c7
  have hk2 : ks[kf]? = some false := by simpa [List.getD_eq_getElem?_getD, c5] using hk
  have hnf : narrow .boolean (.int v) = .int v ∧ fits .boolean (.int v) = true := by rcases hv with rfl | rfl <;> exact ⟨by decide, by decide⟩
  refine va_put (D := w.dg) (ci := ci) (v := .int v) (ty := .boolean) hx hb hts c2 ty c3 c4 hown hK hP hD hS q0 he c1 kf hkN (hts _ hlink) (fun _ z => z) hfin (by rw [c3 kf hkN, hty]) hnf.1 hnf.2 (by rw [encF_len, c6]; exact hkN) hd (fun H1 locs1 hP1 hD1 hS1 => ?_)
  exact k p e s m args below meth c H1 locs1 tys _ ls C0 hK hP1 hD1 (hE.putI he ht c5 c7 hk2) hS1 hB hl
theorem x_putR {idx ci kf a : Nat} {v : Option Nat} {Cl : String} (hd : decode M.cd pc = .ok (.putfield idx, 3)) (hf : FP M.ow idx ci kf false (.object Cl)) (hk : (clsL.getD ci [])[kf]? = some true) (ht : gT h a = ci + 1) (k : X w M Q QX kc ns (pc + 3) L st (sR h a kf v)) : X w M Q QX kc ns pc L (va_rf v :: .ref a :: st) h := by
  intro p e s m args below meth c H locs tys ws ls C hK hP hD hE hS hB hl
  have C0 := C
  obtain ⟨hx, hb, hml, hr, hlk, hown, hts, hin, htab⟩ := C
  obtain ⟨Cn, T, N, ty, ks, ⟨c1, c2, c3, c4, c5, c6, c7, c8⟩, hkN, hlink, hfin, hty, hdecl⟩ := hf
  obtain ⟨q0, he⟩ := hE.obj ht c5 c7
  have hk2 : ks[kf]? = some true := by simpa [List.getD_eq_getElem?_getD, c5] using hk
  have hnf : narrow (.object Cl) (va_rf v) = va_rf v ∧ fits (.object Cl) (va_rf v) = true := by cases v <;> exact ⟨rfl, rfl⟩
  refine va_put (D := w.dg) (ci := ci) (v := va_rf v) (ty := (.object Cl)) hx hb hts c2 ty c3 c4 hown hK hP hD hS q0 he c1 kf hkN (hts _ hlink) (fun _ z => z) hfin (by rw [c3 kf hkN, hty]) hnf.1 hnf.2 (by rw [encF_len, c6]; exact hkN) hd (fun H1 locs1 hP1 hD1 hS1 => ?_)
  exact k p e s m args below meth c H1 locs1 tys _ ls C0 hK hP1 hD1 (hE.putR he ht c5 c7 hk2) hS1 hB hl
theorem x_putFI {idx ci kf a : Nat} {v : Int32} (hd : decode M.cd pc = .ok (.putfield idx, 3)) (hf : FP M.ow idx ci kf true .int) (hk : (clsL.getD ci [])[kf]? = some false) (ht : gT h a = ci + 1) (hii : M.ii = true) (k : X w M Q QX kc ns (pc + 3) L st (sI h a kf v)) : X w M Q QX kc ns pc L (.int v :: .ref a :: st) h := by
  intro p e s m args below meth c H locs tys ws ls C hK hP hD hE hS hB hl
  have C0 := C
  obtain ⟨hx, hb, hml, hr, hlk, hown, hts, hin, htab⟩ := C
  obtain ⟨Cn, T, N, ty, ks, ⟨c1, c2, c3, c4, c5, c6, c7, c8⟩, hkN, hlink, hfin, hty, hdecl⟩ := hf
  obtain ⟨q0, he⟩ := hE.obj ht c5 c7
  have hk2 : ks[kf]? = some false := by simpa [List.getD_eq_getElem?_getD, c5] using hk
  have hnf : narrow .int (.int v) = .int v ∧ fits .int (.int v) = true := ⟨rfl, rfl⟩
  refine va_putF (D := w.dg) (ci := ci) (v := .int v) (ty := .int) hx hb hts c2 ty c3 c4 hown hK hP hD hS q0 he c1 kf hkN (hts _ hlink) (fun _ z => z) hfin (hin hii) (hdecl rfl) (by rw [c3 kf hkN, hty]) hnf.1 hnf.2 (by rw [encF_len, c6]; exact hkN) hd (fun H1 locs1 hP1 hD1 hS1 => ?_)
  exact k p e s m args below meth c H1 locs1 tys _ ls C0 hK hP1 hD1 (hE.putI he ht c5 c7 hk2) hS1 hB hl
theorem x_putFR {idx ci kf a : Nat} {v : Option Nat} {Cl : String} (hd : decode M.cd pc = .ok (.putfield idx, 3)) (hf : FP M.ow idx ci kf true (.object Cl)) (hk : (clsL.getD ci [])[kf]? = some true) (ht : gT h a = ci + 1) (hii : M.ii = true) (k : X w M Q QX kc ns (pc + 3) L st (sR h a kf v)) : X w M Q QX kc ns pc L (va_rf v :: .ref a :: st) h := by
  intro p e s m args below meth c H locs tys ws ls C hK hP hD hE hS hB hl
  have C0 := C
  obtain ⟨hx, hb, hml, hr, hlk, hown, hts, hin, htab⟩ := C
  obtain ⟨Cn, T, N, ty, ks, ⟨c1, c2, c3, c4, c5, c6, c7, c8⟩, hkN, hlink, hfin, hty, hdecl⟩ := hf
  obtain ⟨q0, he⟩ := hE.obj ht c5 c7
  have hk2 : ks[kf]? = some true := by simpa [List.getD_eq_getElem?_getD, c5] using hk
  have hnf : narrow (.object Cl) (va_rf v) = va_rf v ∧ fits (.object Cl) (va_rf v) = true := by cases v <;> exact ⟨rfl, rfl⟩
  refine va_putF (D := w.dg) (ci := ci) (v := va_rf v) (ty := (.object Cl)) hx hb hts c2 ty c3 c4 hown hK hP hD hS q0 he c1 kf hkN (hts _ hlink) (fun _ z => z) hfin (hin hii) (hdecl rfl) (by rw [c3 kf hkN, hty]) hnf.1 hnf.2 (by rw [encF_len, c6]; exact hkN) hd (fun H1 locs1 hP1 hD1 hS1 => ?_)
  exact k p e s m args below meth c H1 locs1 tys _ ls C0 hK hP1 hD1 (hE.putR he ht c5 c7 hk2) hS1 hB hl
theorem x_putFA {idx ci kf a : Nat} {v : Option Nat} {Ta : FieldType} (hd : decode M.cd pc = .ok (.putfield idx, 3)) (hf : FP M.ow idx ci kf true (.array Ta)) (hk : (clsL.getD ci [])[kf]? = some true) (ht : gT h a = ci + 1) (hii : M.ii = true) (k : X w M Q QX kc ns (pc + 3) L st (sR h a kf v)) : X w M Q QX kc ns pc L (va_rf v :: .ref a :: st) h := by
  intro p e s m args below meth c H locs tys ws ls C hK hP hD hE hS hB hl
  have C0 := C
  obtain ⟨hx, hb, hml, hr, hlk, hown, hts, hin, htab⟩ := C
  obtain ⟨Cn, T, N, ty, ks, ⟨c1, c2, c3, c4, c5, c6, c7, c8⟩, hkN, hlink, hfin, hty, hdecl⟩ := hf
  obtain ⟨q0, he⟩ := hE.obj ht c5 c7
  have hk2 : ks[kf]? = some true := by simpa [List.getD_eq_getElem?_getD, c5] using hk
  have hnf : narrow (.array Ta) (va_rf v) = va_rf v ∧ fits (.array Ta) (va_rf v) = true := by cases v <;> exact ⟨rfl, rfl⟩
  refine va_putF (D := w.dg) (ci := ci) (v := va_rf v) (ty := (.array Ta)) hx hb hts c2 ty c3 c4 hown hK hP hD hS q0 he c1 kf hkN (hts _ hlink) (fun _ z => z) hfin (hin hii) (hdecl rfl) (by rw [c3 kf hkN, hty]) hnf.1 hnf.2 (by rw [encF_len, c6]; exact hkN) hd (fun H1 locs1 hP1 hD1 hS1 => ?_)
  exact k p e s m args below meth c H1 locs1 tys _ ls C0 hK hP1 hD1 (hE.putR he ht c5 c7 hk2) hS1 hB hl

theorem encF_new {h : AH} {q t n : Nat} : ∀ (ks : List Bool) (k0 : Nat), encF (nO h q t n) q k0 ks = ks.map (fun b => if b then Value.null else .int 0)
  | [], _ => rfl
  | b :: r, k0 => by
    cases b <;> simp [encF, encF_new r, gI_nO, gR_nO, va_rf]
theorem x_new {idx ci N : Nat} {Cl : String} {T : u_T} {ty : Nat → FieldType} {ks : List Bool} (hd : decode M.cd pc = .ok (.new idx, 3)) (hci : CI ci Cl T N ty ks) (hcl : Cond.classLink M.ow idx Cl ∈ TB) (hinst : Cond.instantiable Cl N ∈ TB) (hini : Cond.initialized Cl ∈ TB) (hc : kc + 1 ≤ M.rm.cells) (hs : ns + N ≤ M.rm.slots)
    (k : ∀ q : Nat, gT h q = 0 → X w M Q QX (kc + 1) (ns + N) (pc + 3) L (.ref q :: st) (nO h q (ci + 1) 0)) : X w M Q QX kc ns pc L st h := by
  intro p e s m args below meth c H locs tys ws ls C hK hP hD hE hS hB hl
  have C0 := C
  obtain ⟨hx, hb, hml, hr, hlk, hown, hts, hin, htab⟩ := C
  obtain ⟨c1, c2, c3, c4, c5, c6, c7, c8⟩ := hci
  refine va_new (D := w.dg) (ci := ci) (fs := ks.map (fun b => if b then Value.null else .int 0)) hx hb hts c2 ty c3 hown (hts _ hcl) (hts _ hinst) (hts _ hini) hK hP hD hS (fun q hq => Nat.le_trans hB.2.1 hq) c1 (fun j hj => ?_) hc hs hd (fun q H1 hP1 hD1 hS1 => ?_)
  · rw [c8 j hj]
    have hl : j < ks.length := by rw [c6]; exact hj
    simp only [vp_V, List.getD_eq_getElem?_getD, List.getElem?_map, List.getElem?_eq_getElem hl, Option.map_some, Option.getD_some, Option.some.injEq]
  · obtain ⟨hq0, hE1⟩ := hE.push (t := ci + 1) (n := 0) hD1 (Nat.succ_ne_zero _) (Or.inl ⟨ci, ks, by rw [gT_nO, if_pos rfl], c7, c5, by rw [encF_new]⟩)
    exact k q hq0 p e s m args below meth c H1 locs tys _ ls C0 hK hP1 hD1 hE1 hS1 hB hl
theorem x_newI {n : Int32} {N' : Nat} (hd : decode M.cd pc = .ok (.newarray .int, 2)) (harr : Cond.arrayClass .int ∈ TB) (hn : ¬ n < 0) (hN : n.toNatClampNeg = N') (hb2 : N' * 8 ≤ 536870912) (hc : kc + 1 ≤ M.rm.cells) (hs : ns + N' ≤ M.rm.slots)
    (k : ∀ q : Nat, gT h q = 0 → X w M Q QX (kc + 1) (ns + N') (pc + 2) L (.ref q :: st) (nO h q 11 N')) : X w M Q QX kc ns pc L (.int n :: st) h := by
  intro p e s m args below meth c H locs tys ws ls C hK hP hD hE hS hB hl
  have C0 := C
  obtain ⟨hx, hb, hml, hr, hlk, hown, hts, hin, htab⟩ := C
  refine va_newa (D := w.dg) (atype := .int) hx hb (hts _ harr) rfl hK hP hD hS (fun q hq => Nat.le_trans hB.2.1 hq) (a0 := (N', .inl (fun _ => 0))) (fun cA => vp_cell_i cA N' _) hn hN (by simp only [newarray.typeOf, componentBytes]; omega) hc hs hd (fun q cA H1 hK1 hP1 hD1 hS1 => ?_)
  obtain ⟨hq0, hE1⟩ := (hE.more [(cA, .int)]).push (t := 11) (n := N') hD1 (by decide) (Or.inr ⟨cA, tys.length, by rw [gT_nO, if_pos rfl]; decide, by rw [gT_nO, if_pos rfl]; decide, by rw [gT_nO, if_pos rfl]; simp [ety], by
    rw [encA_I (by rw [gT_nO, if_pos rfl]), gN_nO, if_pos rfl]
    congr
    funext j
    simp [gI_nO, gL_nO]⟩)
  exact k q hq0 p e s m args below meth c H1 locs _ _ ls C0 hK1 hP1 hD1 hE1 hS1 hB hl
theorem x_newZ {n : Int32} {N' : Nat} (hd : decode M.cd pc = .ok (.newarray .boolean, 2)) (harr : Cond.arrayClass .boolean ∈ TB) (hn : ¬ n < 0) (hN : n.toNatClampNeg = N') (hb2 : N' * 8 ≤ 536870912) (hc : kc + 1 ≤ M.rm.cells) (hs : ns + N' ≤ M.rm.slots)
    (k : ∀ q : Nat, gT h q = 0 → X w M Q QX (kc + 1) (ns + N') (pc + 2) L (.ref q :: st) (nO h q 12 N')) : X w M Q QX kc ns pc L (.int n :: st) h := by
  intro p e s m args below meth c H locs tys ws ls C hK hP hD hE hS hB hl
  have C0 := C
  obtain ⟨hx, hb, hml, hr, hlk, hown, hts, hin, htab⟩ := C
  refine va_newa (D := w.dg) (atype := .boolean) hx hb (hts _ harr) rfl hK hP hD hS (fun q hq => Nat.le_trans hB.2.1 hq) (a0 := (N', .inl (fun _ => 0))) (fun cA => vp_cell_i cA N' _) hn hN (by simp only [newarray.typeOf, componentBytes]; omega) hc hs hd (fun q cA H1 hK1 hP1 hD1 hS1 => ?_)
  obtain ⟨hq0, hE1⟩ := (hE.more [(cA, .boolean)]).push (t := 12) (n := N') hD1 (by decide) (Or.inr ⟨cA, tys.length, by rw [gT_nO, if_pos rfl]; decide, by rw [gT_nO, if_pos rfl]; decide, by rw [gT_nO, if_pos rfl]; simp [ety], by
    rw [encA_Z (by rw [gT_nO, if_pos rfl]), gN_nO, if_pos rfl]
    congr
    funext j
    simp [gI_nO, gL_nO]⟩)
  exact k q hq0 p e s m args below meth c H1 locs _ _ ls C0 hK1 hP1 hD1 hE1 hS1 hB hl
theorem x_newL {n : Int32} {N' : Nat} (hd : decode M.cd pc = .ok (.newarray .long, 2)) (harr : Cond.arrayClass .long ∈ TB) (hn : ¬ n < 0) (hN : n.toNatClampNeg = N') (hb2 : N' * 8 ≤ 536870912) (hc : kc + 1 ≤ M.rm.cells) (hs : ns + N' ≤ M.rm.slots)
    (k : ∀ q : Nat, gT h q = 0 → X w M Q QX (kc + 1) (ns + N') (pc + 2) L (.ref q :: st) (nO h q 13 N')) : X w M Q QX kc ns pc L (.int n :: st) h := by
  intro p e s m args below meth c H locs tys ws ls C hK hP hD hE hS hB hl
  have C0 := C
  obtain ⟨hx, hb, hml, hr, hlk, hown, hts, hin, htab⟩ := C
  refine va_newa (D := w.dg) (atype := .long) hx hb (hts _ harr) rfl hK hP hD hS (fun q hq => Nat.le_trans hB.2.1 hq) (a0 := (N', .inr (.inl (fun _ => 0)))) (fun cA => vp_cell_l cA N' _) hn hN (by simp only [newarray.typeOf, componentBytes]; omega) hc hs hd (fun q cA H1 hK1 hP1 hD1 hS1 => ?_)
  obtain ⟨hq0, hE1⟩ := (hE.more [(cA, .long)]).push (t := 13) (n := N') hD1 (by decide) (Or.inr ⟨cA, tys.length, by rw [gT_nO, if_pos rfl]; decide, by rw [gT_nO, if_pos rfl]; decide, by rw [gT_nO, if_pos rfl]; simp [ety], by
    rw [encA_L (by rw [gT_nO, if_pos rfl]), gN_nO, if_pos rfl]
    congr
    funext j
    simp [gI_nO, gL_nO]⟩)
  exact k q hq0 p e s m args below meth c H1 locs _ _ ls C0 hK1 hP1 hD1 hE1 hS1 hB hl

theorem x_newq {n : Int32} {N' idx t : Nat} {Cl : String} (hd : decode M.cd pc = .ok (.anewarray idx, 3)) (hcl : Cond.classLink M.ow idx Cl ∈ TB) (hao : Cl ∈ AOl) (hty : ety t = .object Cl) (h14 : 14 ≤ t) (h17 : t ≤ 17) (hn : ¬ n < 0) (hN : n.toNatClampNeg = N') (hb2 : N' * 8 ≤ 536870912) (hc : kc + 1 ≤ M.rm.cells) (hs : ns + N' ≤ M.rm.slots)
    (k : ∀ q : Nat, gT h q = 0 → X w M Q QX (kc + 1) (ns + N') (pc + 3) L (.ref q :: st) (nO h q t N')) : X w M Q QX kc ns pc L (.int n :: st) h := by
  intro p e s m args below meth c H locs tys ws ls C hK hP hD hE hS hB hl
  have C0 := C
  obtain ⟨hx, hb, hml, hr, hlk, hown, hts, hin, htab⟩ := C
  refine va_newq (D := w.dg) (C := Cl) hx hb hown (hts _ hcl) (hB.2.2.2.2.2.2.2.2.2.2.2.2 Cl hao) hK hP hD hS (fun q hq => Nat.le_trans hB.2.1 hq) hn hN (by omega) hc hs hd (fun q cA H1 hK1 hP1 hD1 hS1 => ?_)
  have htq : gT (nO h q t N') q = t := by rw [gT_nO, if_pos rfl]
  obtain ⟨hq0, hE1⟩ := (hE.more [(cA, .object Cl)]).push (t := t) (n := N') hD1 (by omega) (Or.inr ⟨cA, tys.length, by rw [htq]; omega, by rw [htq]; exact h17, by rw [htq, hty]; simp, by
    rw [encA_R (by rw [htq]; exact h14), gN_nO, if_pos rfl]
    congr
    funext j
    simp [gR_nO]⟩)
  exact k q hq0 p e s m args below meth c H1 locs _ _ ls C0 hK1 hP1 hD1 hE1 hS1 hB hl
theorem x_iald {i : Int32} {a : Nat} (hd : decode M.cd pc = .ok (.iaload, 1)) (ht : gT h a = 11) (hi : vp_in i (gN h a)) (k : X w M Q QX kc ns (pc + 1) L (.int (gI h a i.toNatClampNeg) :: st) h) : X w M Q QX kc ns pc L (.int i :: .ref a :: st) h := by
  intro p e s m args below meth c H locs tys ws ls C hK hP hD hE hS hB hl
  have C0 := C
  obtain ⟨hx, hb, hml, hr, hlk, hown, hts, hin, htab⟩ := C
  obtain ⟨q0, cA, t0, -, g1, g2⟩ := hE.arr (a := a) (by rw [ht]; decide)
  rw [encA_I ht] at g1
  rw [ht] at g2
  exact va_iald (D := w.dg) hx hb hK hP q0 t0 g1 g2 hi hd (k p e s m args below meth c H locs tys ws ls C0 hK hP hD hE hS hB hl)
theorem x_zald {i : Int32} {a : Nat} (hd : decode M.cd pc = .ok (.baload, 1)) (ht : gT h a = 12) (hi : vp_in i (gN h a)) (k : X w M Q QX kc ns (pc + 1) L (.int (gI h a i.toNatClampNeg) :: st) h) : X w M Q QX kc ns pc L (.int i :: .ref a :: st) h := by
  intro p e s m args below meth c H locs tys ws ls C hK hP hD hE hS hB hl
  have C0 := C
  obtain ⟨hx, hb, hml, hr, hlk, hown, hts, hin, htab⟩ := C
  obtain ⟨q0, cA, t0, -, g1, g2⟩ := hE.arr (a := a) (by rw [ht]; decide)
  rw [encA_Z ht] at g1
  rw [ht] at g2
  exact va_zald (D := w.dg) hx hb hK hP q0 t0 g1 g2 hi hd (k p e s m args below meth c H locs tys ws ls C0 hK hP hD hE hS hB hl)
theorem x_lald {i : Int32} {a : Nat} (hd : decode M.cd pc = .ok (.laload, 1)) (ht : gT h a = 13) (hi : vp_in i (gN h a)) (k : X w M Q QX kc ns (pc + 1) L (.long (gL h a i.toNatClampNeg) :: st) h) : X w M Q QX kc ns pc L (.int i :: .ref a :: st) h := by
  intro p e s m args below meth c H locs tys ws ls C hK hP hD hE hS hB hl
  have C0 := C
  obtain ⟨hx, hb, hml, hr, hlk, hown, hts, hin, htab⟩ := C
  obtain ⟨q0, cA, t0, -, g1, g2⟩ := hE.arr (a := a) (by rw [ht]; decide)
  rw [encA_L ht] at g1
  rw [ht] at g2
  exact va_lald (D := w.dg) hx hb hK hP q0 t0 g1 g2 hi hd (k p e s m args below meth c H locs tys ws ls C0 hK hP hD hE hS hB hl)
theorem x_iast {i : Int32} {a : Nat} {x : Int32} (hd : decode M.cd pc = .ok (.iastore, 1)) (ht : gT h a = 11) (hi : vp_in i (gN h a)) (k : X w M Q QX kc ns (pc + 1) L st (sI h a i.toNatClampNeg x)) : X w M Q QX kc ns pc L (.int x :: .int i :: .ref a :: st) h := by
  intro p e s m args below meth c H locs tys ws ls C hK hP hD hE hS hB hl
  have C0 := C
  obtain ⟨hx, hb, hml, hr, hlk, hown, hts, hin, htab⟩ := C
  obtain ⟨q0, cA, t0, -, g1, g2⟩ := hE.arr (a := a) (by rw [ht]; decide)
  rw [encA_I ht] at g1
  rw [ht] at g2
  refine va_iast (D := w.dg) hx hb hK hP hD hS q0 t0 g1 g2 hi hd (fun H1 locs1 hP1 hD1 hS1 => ?_)
  refine k p e s m args below meth c H1 locs1 tys _ ls C0 hK hP1 hD1 (hE.upd g1 (fun _ => rfl) (fun b hb e he => he.cong (h := h) (h' := sI h a i.toNatClampNeg x) rfl rfl (fun j => by rw [gI_sI, if_neg (fun z => hb z.1)]) (fun _ => rfl) (fun _ => rfl)) (Or.inr ⟨cA, t0, by show 11 ≤ gT h a; rw [ht]; decide, by show gT h a ≤ 17; rw [ht]; decide, by show tys[t0]? = some (cA, ety (gT h a)); rw [ht]; exact g2, ?_⟩)) hS1 hB hl
  rw [encA_I (h := sI h a i.toNatClampNeg x) ht]
  have e1 : gI (sI h a i.toNatClampNeg x) a = upd (gI h a) i.toNatClampNeg x := by funext j; simp [gI_sI, upd]
  rw [e1]
  rfl
theorem x_zast {i : Int32} {a : Nat} {x : Int32} (hd : decode M.cd pc = .ok (.bastore, 1)) (ht : gT h a = 12) (hi : vp_in i (gN h a)) (hv : x = 0 ∨ x = 1) (k : X w M Q QX kc ns (pc + 1) L st (sI h a i.toNatClampNeg x)) : X w M Q QX kc ns pc L (.int x :: .int i :: .ref a :: st) h := by
  intro p e s m args below meth c H locs tys ws ls C hK hP hD hE hS hB hl
  have C0 := C
  obtain ⟨hx, hb, hml, hr, hlk, hown, hts, hin, htab⟩ := C
  obtain ⟨q0, cA, t0, -, g1, g2⟩ := hE.arr (a := a) (by rw [ht]; decide)
  rw [encA_Z ht] at g1
  rw [ht] at g2
  refine va_zast (D := w.dg) hx hb hK hP hD hS q0 t0 g1 g2 hi hd (fun H1 locs1 hP1 hD1 hS1 => ?_)
  refine k p e s m args below meth c H1 locs1 tys _ ls C0 hK hP1 hD1 (hE.upd g1 (fun _ => rfl) (fun b hb e he => he.cong (h := h) (h' := sI h a i.toNatClampNeg x) rfl rfl (fun j => by rw [gI_sI, if_neg (fun z => hb z.1)]) (fun _ => rfl) (fun _ => rfl)) (Or.inr ⟨cA, t0, by show 11 ≤ gT h a; rw [ht]; decide, by show gT h a ≤ 17; rw [ht]; decide, by show tys[t0]? = some (cA, ety (gT h a)); rw [ht]; exact g2, ?_⟩)) hS1 hB hl
  rw [encA_Z (h := sI h a i.toNatClampNeg x) ht]
  have hnar : vp_nar .boolean x = x := by rcases hv with rfl | rfl <;> decide
  have e1 : gI (sI h a i.toNatClampNeg x) a = upd (gI h a) i.toNatClampNeg x := by funext j; simp [gI_sI, upd]
  rw [hnar, e1]
  rfl
theorem x_last {i : Int32} {a : Nat} {x : Int64} (hd : decode M.cd pc = .ok (.lastore, 1)) (ht : gT h a = 13) (hi : vp_in i (gN h a)) (k : X w M Q QX kc ns (pc + 1) L st (sL h a i.toNatClampNeg x)) : X w M Q QX kc ns pc L (.long x :: .int i :: .ref a :: st) h := by
  intro p e s m args below meth c H locs tys ws ls C hK hP hD hE hS hB hl
  have C0 := C
  obtain ⟨hx, hb, hml, hr, hlk, hown, hts, hin, htab⟩ := C
  obtain ⟨q0, cA, t0, -, g1, g2⟩ := hE.arr (a := a) (by rw [ht]; decide)
  rw [encA_L ht] at g1
  rw [ht] at g2
  refine va_last (D := w.dg) hx hb hK hP hD hS q0 t0 g1 g2 hi hd (fun H1 locs1 hP1 hD1 hS1 => ?_)
  refine k p e s m args below meth c H1 locs1 tys _ ls C0 hK hP1 hD1 (hE.upd g1 (fun _ => rfl) (fun b hb e he => he.cong (h := h) (h' := sL h a i.toNatClampNeg x) rfl rfl (fun _ => rfl) (fun _ => rfl) (fun j => by rw [gL_sL, if_neg (fun z => hb z.1)])) (Or.inr ⟨cA, t0, by show 11 ≤ gT h a; rw [ht]; decide, by show gT h a ≤ 17; rw [ht]; decide, by show tys[t0]? = some (cA, ety (gT h a)); rw [ht]; exact g2, ?_⟩)) hS1 hB hl
  rw [encA_L (h := sL h a i.toNatClampNeg x) ht]
  have e1 : gL (sL h a i.toNatClampNeg x) a = vp_updL (gL h a) i.toNatClampNeg x := by funext j; simp [gL_sL, vp_updL]
  rw [e1]
  rfl

theorem x_aald {i : Int32} {a : Nat} (hd : decode M.cd pc = .ok (.aaload, 1)) (ht : 14 ≤ gT h a) (hi : vp_in i (gN h a)) (k : X w M Q QX kc ns (pc + 1) L (va_rf (gR h a i.toNatClampNeg) :: st) h) : X w M Q QX kc ns pc L (.int i :: .ref a :: st) h := by
  intro p e s m args below meth c H locs tys ws ls C hK hP hD hE hS hB hl
  have C0 := C
  obtain ⟨hx, hb, hml, hr, hlk, hown, hts, hin, htab⟩ := C
  obtain ⟨q0, cA, t0, g3, g1, g2⟩ := hE.arr (a := a) (by omega)
  rw [encA_R ht] at g1
  obtain ⟨Cl, hC⟩ : ∃ Cl, ety (gT h a) = .object Cl := by
    generalize gT h a = t at ht g3
    rcases (show t = 14 ∨ t = 15 ∨ t = 16 ∨ t = 17 by omega) with rfl | rfl | rfl | rfl <;> exact ⟨_, rfl⟩
  rw [hC] at g2
  exact va_aldq (D := w.dg) hx hb hK hP q0 t0 g1 g2 hi hd (k p e s m args below meth c H locs tys ws ls C0 hK hP hD hE hS hB hl)
theorem x_aast {i : Int32} {a v ci N : Nat} {Cl : String} {T : u_T} {ty : Nat → FieldType} {ks : List Bool} (hd : decode M.cd pc = .ok (.aastore, 1)) (ht : 14 ≤ gT h a) (hci : CI ci Cl T N ty ks) (hv : gT h v = ci + 1) (hC : ety (gT h a) = .object Cl) (hi : vp_in i (gN h a)) (k : X w M Q QX kc ns (pc + 1) L st (sR h a i.toNatClampNeg (some v))) : X w M Q QX kc ns pc L (.ref v :: .int i :: .ref a :: st) h := by
  intro p e s m args below meth c H locs tys ws ls C hK hP hD hE hS hB hl
  have C0 := C
  obtain ⟨hx, hb, hml, hr, hlk, hown, hts, hin, htab⟩ := C
  obtain ⟨c1, c2, c3, c4, c5, c6, c7, c8⟩ := hci
  obtain ⟨q0, cA, t0, g3, g1, g2⟩ := hE.arr (a := a) (by omega)
  obtain ⟨qk, hqk⟩ := hE.obj hv c5 c7
  rw [encA_R ht] at g1
  have g2' := g2
  rw [hC] at g2
  refine va_astq (D := w.dg) (r := (Cl, T, N)) hx hb hK hP hD hS q0 t0 qk ci g1 g2 hqk c1 hi hd (fun H1 locs1 hP1 hD1 hS1 => ?_)
  refine k p e s m args below meth c H1 locs1 tys _ ls C0 hK hP1 hD1 (hE.upd g1 (fun _ => rfl) (fun b hb e he => he.cong (h := h) (h' := sR h a i.toNatClampNeg (some v)) rfl rfl (fun _ => rfl) (fun j => by rw [gR_sR, if_neg (fun z => hb z.1)]) (fun _ => rfl)) (Or.inr ⟨cA, t0, by show 11 ≤ gT h a; omega, g3, g2', ?_⟩)) hS1 hB hl
  rw [encA_R (h := sR h a i.toNatClampNeg (some v)) ht]
  have e1 : gR (sR h a i.toNatClampNeg (some v)) a = va_up (gR h a) i.toNatClampNeg (some v) := by funext j; simp [gR_sR, va_up]
  rw [e1]
  rfl
theorem x_alen {a : Nat} (hd : decode M.cd pc = .ok (.arraylength, 1)) (ht : 11 ≤ gT h a) (k : X w M Q QX kc ns (pc + 1) L (.int (Int32.ofNat (gN h a)) :: st) h) : X w M Q QX kc ns pc L (.ref a :: st) h := by
  intro p e s m args below meth c H locs tys ws ls C hK hP hD hE hS hB hl
  have C0 := C
  obtain ⟨hx, hb, hml, hr, hlk, hown, hts, hin, htab⟩ := C
  obtain ⟨q0, cA, t0, g3, g1, g2⟩ := hE.arr (a := a) ht
  have he : (encA h a).1 = gN h a := by unfold encA; split <;> rfl
  exact va_alen (D := w.dg) hx hb hK hP q0 t0 g1 g2 (by rw [he]) hd (k p e s m args below meth c H locs tys ws ls C0 hK hP hD hE hS hB hl)
/-- the static rows and the script: read, never written -/
theorem x_getsS {idx : Nat} (hd : decode M.cd pc = .ok (.getstatic idx, 3)) (hn : Cond.fieldLinkNest M.ow idx "Stowfinish" "SIDE_STEPS" "[I" "Stowfinish" ∈ NWl) (k : X w M Q QX kc ns (pc + 3) L (.ref w.aS :: st) h) : X w M Q QX kc ns pc L st h := by
  intro p e s m args below meth c H locs tys ws ls C hK hP hD hE hS hB hl
  have C0 := C
  obtain ⟨hx, hb, hml, hr, hlk, hown, hts, hin, htab⟩ := C
  exact va_getsN hx hb hB.2.2.2.2.1 hS hown (va_Nw.use rfl (hB.2.2.2.2.2.2.2.2.2.1 _ hn)) (fun _ z => z) hd (k p e s m args below meth c H locs tys ws ls C0 hK hP hD hE hS hB hl)
theorem x_getsH {idx : Nat} (hd : decode M.cd pc = .ok (.getstatic idx, 3)) (hn : Cond.fieldLinkNest M.ow idx "Stowfinish" "SIDE_HOLES" "[I" "Stowfinish" ∈ NWl) (k : X w M Q QX kc ns (pc + 3) L (.ref w.aH :: st) h) : X w M Q QX kc ns pc L st h := by
  intro p e s m args below meth c H locs tys ws ls C hK hP hD hE hS hB hl
  have C0 := C
  obtain ⟨hx, hb, hml, hr, hlk, hown, hts, hin, htab⟩ := C
  exact va_getsN hx hb hB.2.2.2.2.2.1 hS hown (va_Nw.use rfl (hB.2.2.2.2.2.2.2.2.2.1 _ hn)) (fun _ z => z) hd (k p e s m args below meth c H locs tys ws ls C0 hK hP hD hE hS hB hl)
theorem x_roS {i : Int32} (hd : decode M.cd pc = .ok (.iaload, 1)) (hi : vp_in i 4) (k : X w M Q QX kc ns (pc + 1) L (.int (sideS i.toNatClampNeg) :: st) h) : X w M Q QX kc ns pc L (.int i :: .ref w.aS :: st) h := by
  intro p e s m args below meth c H locs tys ws ls C hK hP hD hE hS hB hl
  have C0 := C
  obtain ⟨hx, hb, hml, hr, hlk, hown, hts, hin, htab⟩ := C
  exact va_sld hx hb hB.2.2.2.2.2.2.1.1 (Nat.lt_of_lt_of_le hB.2.2.2.2.2.2.1.2 hB.2.1) (Nat.not_le.mpr hB.2.2.2.2.2.2.1.2) hS hi hd (k p e s m args below meth c H locs tys ws ls C0 hK hP hD hE hS hB hl)
theorem x_roSlen (hd : decode M.cd pc = .ok (.arraylength, 1)) (k : X w M Q QX kc ns (pc + 1) L (.int (Int32.ofNat 4) :: st) h) : X w M Q QX kc ns pc L (.ref w.aS :: st) h := by
  intro p e s m args below meth c H locs tys ws ls C hK hP hD hE hS hB hl
  have C0 := C
  obtain ⟨hx, hb, hml, hr, hlk, hown, hts, hin, htab⟩ := C
  exact va_slen hx hb hB.2.2.2.2.2.2.1.1 (Nat.lt_of_lt_of_le hB.2.2.2.2.2.2.1.2 hB.2.1) (Nat.not_le.mpr hB.2.2.2.2.2.2.1.2) hS hd (k p e s m args below meth c H locs tys ws ls C0 hK hP hD hE hS hB hl)
theorem x_roH {i : Int32} (hd : decode M.cd pc = .ok (.iaload, 1)) (hi : vp_in i 4) (k : X w M Q QX kc ns (pc + 1) L (.int (sideH i.toNatClampNeg) :: st) h) : X w M Q QX kc ns pc L (.int i :: .ref w.aH :: st) h := by
  intro p e s m args below meth c H locs tys ws ls C hK hP hD hE hS hB hl
  have C0 := C
  obtain ⟨hx, hb, hml, hr, hlk, hown, hts, hin, htab⟩ := C
  exact va_sld hx hb hB.2.2.2.2.2.2.2.1.1 (Nat.lt_of_lt_of_le hB.2.2.2.2.2.2.2.1.2 hB.2.1) (Nat.not_le.mpr hB.2.2.2.2.2.2.2.1.2) hS hi hd (k p e s m args below meth c H locs tys ws ls C0 hK hP hD hE hS hB hl)
theorem x_roHlen (hd : decode M.cd pc = .ok (.arraylength, 1)) (k : X w M Q QX kc ns (pc + 1) L (.int (Int32.ofNat 4) :: st) h) : X w M Q QX kc ns pc L (.ref w.aH :: st) h := by
  intro p e s m args below meth c H locs tys ws ls C hK hP hD hE hS hB hl
  have C0 := C
  obtain ⟨hx, hb, hml, hr, hlk, hown, hts, hin, htab⟩ := C
  exact va_slen hx hb hB.2.2.2.2.2.2.2.1.1 (Nat.lt_of_lt_of_le hB.2.2.2.2.2.2.2.1.2 hB.2.1) (Nat.not_le.mpr hB.2.2.2.2.2.2.2.1.2) hS hd (k p e s m args below meth c H locs tys ws ls C0 hK hP hD hE hS hB hl)
theorem x_roX {i : Int32} (hd : decode M.cd pc = .ok (.iaload, 1)) (hi : vp_in i w.lX) (k : X w M Q QX kc ns (pc + 1) L (.int (w.xs i.toNatClampNeg) :: st) h) : X w M Q QX kc ns pc L (.int i :: .ref w.aX :: st) h := by
  intro p e s m args below meth c H locs tys ws ls C hK hP hD hE hS hB hl
  have C0 := C
  obtain ⟨hx, hb, hml, hr, hlk, hown, hts, hin, htab⟩ := C
  exact va_sld hx hb hB.2.2.2.2.2.2.2.2.1.1 (Nat.lt_of_lt_of_le hB.2.2.2.2.2.2.2.2.1.2 hB.2.1) (Nat.not_le.mpr hB.2.2.2.2.2.2.2.2.1.2) hS hi hd (k p e s m args below meth c H locs tys ws ls C0 hK hP hD hE hS hB hl)
theorem x_roXlen (hd : decode M.cd pc = .ok (.arraylength, 1)) (k : X w M Q QX kc ns (pc + 1) L (.int (Int32.ofNat w.lX) :: st) h) : X w M Q QX kc ns pc L (.ref w.aX :: st) h := by
  intro p e s m args below meth c H locs tys ws ls C hK hP hD hE hS hB hl
  have C0 := C
  obtain ⟨hx, hb, hml, hr, hlk, hown, hts, hin, htab⟩ := C
  exact va_slen hx hb hB.2.2.2.2.2.2.2.2.1.1 (Nat.lt_of_lt_of_le hB.2.2.2.2.2.2.2.2.1.2 hB.2.1) (Nat.not_le.mpr hB.2.2.2.2.2.2.2.2.1.2) hS hd (k p e s m args below meth c H locs tys ws ls C0 hK hP hD hE hS hB hl)

theorem x_mmax {idx : Nat} {x y : Int32} (hd : decode M.cd pc = .ok (.invokestatic idx, 3)) (hlink : Cond.methodLink M.ow idx Lib.Math.max.name ∈ TB) (hstat : Cond.static Lib.Math.max.name ∈ TB) (hini : Cond.initialized "java/lang/Math" ∈ TB) (hcode : Cond.code Lib.Math.max.name Lib.Math.max.code 2 (some .int) ∈ TB) (hf : 1 ≤ M.rm.frames) (hlo : (st.map fun v => v.category).sum + 13 ≤ M.rm.locals) (hc : kc ≤ M.rm.cells) (hs : ns ≤ M.rm.slots)
    (k : X w M Q QX kc ns (pc + 3) L (.int (if x < y then y else x) :: st) h) : X w M Q QX kc ns pc L (.int y :: .int x :: st) h := by
  intro p e s m args below meth c H locs tys ws ls C hK hP hD hE hS hB hl
  have C0 := C
  obtain ⟨hx, hb, hml, hr, hlk, hown, hts, hin, htab⟩ := C
  exact va_mmax hx hb (by rw [hml, hl.1]) hown (hts _ hlink) (hts _ hstat) (hts _ hini) (hts _ hcode) hf hlo hc hs hd (k p e s m args below meth c H locs tys ws ls C0 hK hP hD hE hS hB hl)
theorem x_mabs {idx : Nat} {x : Int32} (hd : decode M.cd pc = .ok (.invokestatic idx, 3)) (hlink : Cond.methodLink M.ow idx Lib.Math.abs.name ∈ TB) (hstat : Cond.static Lib.Math.abs.name ∈ TB) (hini : Cond.initialized "java/lang/Math" ∈ TB) (hcode : Cond.code Lib.Math.abs.name Lib.Math.abs.code 1 (some .int) ∈ TB) (hf : 1 ≤ M.rm.frames) (hlo : (st.map fun v => v.category).sum + 13 ≤ M.rm.locals) (hc : kc ≤ M.rm.cells) (hs : ns ≤ M.rm.slots)
    (k : X w M Q QX kc ns (pc + 3) L (.int (if 0 ≤ x then x else 0 - x) :: st) h) : X w M Q QX kc ns pc L (.int x :: st) h := by
  intro p e s m args below meth c H locs tys ws ls C hK hP hD hE hS hB hl
  have C0 := C
  obtain ⟨hx, hb, hml, hr, hlk, hown, hts, hin, htab⟩ := C
  exact va_mabs hx hb (by rw [hml, hl.1]) hown (hts _ hlink) (hts _ hstat) (hts _ hini) (hts _ hcode) hf hlo hc hs hd (k p e s m args below meth c H locs tys ws ls C0 hK hP hD hE hS hB hl)
theorem x_objInit {idx a : Nat} (hd : decode M.cd pc = .ok (.invokespecial idx, 3)) (hlink : Cond.methodLink M.ow idx Lib.objectInit ∈ TB) (hinst : Cond.instanceMethod Lib.objectInit ∈ TB) (hcode : Cond.code Lib.objectInit ⟨#[0xb1]⟩ 1 none ∈ TB) (hf : 1 ≤ M.rm.frames) (hlo : (st.map fun v => v.category).sum + 12 ≤ M.rm.locals)
    (k : X w M Q QX kc ns (pc + 3) L st h) : X w M Q QX kc ns pc L (.ref a :: st) h := by
  intro p e s m args below meth c H locs tys ws ls C hK hP hD hE hS hB hl
  have C0 := C
  obtain ⟨hx, hb, hml, hr, hlk, hown, hts, hin, htab⟩ := C
  refine W.objInit (g := F0 m pc ls (.ref a :: st)) hx hb hown (hts _ hlink) (hts _ hinst) (hts _ hcode) rfl (by show ls.size = _; rw [hml, hl.1]) rfl hd hf ?_ (k p e s m args below meth c H locs tys ws ls C0 hK hP hD hE hS hB hl)
  have : (F0 m pc ls (.ref a :: st)).monitorRoom = 0 := rfl
  omega
/-! ends -/
theorem x_iret {v : Int32} (hd : decode M.cd pc = .ok (.ireturn, 1)) (hrt : M.rt = some .int) (hc : kc ≤ M.rm.cells) (hs : ns ≤ M.rm.slots) (hq : Q (some (.int v)) h) : X w M Q QX kc ns pc L [.int v] h := by
  intro p e s m args below meth c H locs tys ws ls C hK hP hD hE hS hB hl
  have C0 := C
  obtain ⟨hx, hb, hml, hr, hlk, hown, hts, hin, htab⟩ := C
  refine W.widen hc hs (vx_ret ?_)
  exact W.iret hx hb (hr.trans hrt) (fun t ht hW => ⟨_, h, rfl, hq, ⟨tys, ws, va_K.moved hW.alike hK, by rw [ht]; exact hP, hD, hE⟩, hS.F ht⟩) hS.2.2 hd hlk
theorem x_zret {v : Int32} (hd : decode M.cd pc = .ok (.ireturn, 1)) (hrt : M.rt = some .boolean) (hv : v = 0 ∨ v = 1) (hc : kc ≤ M.rm.cells) (hs : ns ≤ M.rm.slots) (hq : Q (some (.int v)) h) : X w M Q QX kc ns pc L [.int v] h := by
  intro p e s m args below meth c H locs tys ws ls C hK hP hD hE hS hB hl
  have C0 := C
  obtain ⟨hx, hb, hml, hr, hlk, hown, hts, hin, htab⟩ := C
  refine W.widen hc hs (vx_ret ?_)
  exact W.zret hx hb (hr.trans hrt) (by rcases hv with rfl | rfl <;> decide) (fun t ht hW => ⟨_, h, rfl, hq, ⟨tys, ws, va_K.moved hW.alike hK, by rw [ht]; exact hP, hD, hE⟩, hS.F ht⟩) hS.2.2 hd hlk
theorem x_aret {v : Option Nat} {rt : FieldType} (hd : decode M.cd pc = .ok (.areturn, 1)) (hrt : M.rt = some rt) (hrt2 : (∃ n, rt = .object n) ∨ ∃ t, rt = .array t) (hc : kc ≤ M.rm.cells) (hs : ns ≤ M.rm.slots) (hq : Q (some (va_rf v)) h) : X w M Q QX kc ns pc L [va_rf v] h := by
  intro p e s m args below meth c H locs tys ws ls C hK hP hD hE hS hB hl
  have C0 := C
  obtain ⟨hx, hb, hml, hr, hlk, hown, hts, hin, htab⟩ := C
  refine W.widen hc hs (vx_ret ?_)
  exact W.aret hx hb (hr.trans hrt) hrt2 (by cases v with | none => exact Or.inl rfl | some a => exact Or.inr ⟨a, rfl⟩) (fun t ht hW => ⟨_, h, rfl, hq, ⟨tys, ws, va_K.moved hW.alike hK, by rw [ht]; exact hP, hD, hE⟩, hS.F ht⟩) hS.2.2 hd hlk
theorem x_vret (hd : decode M.cd pc = .ok (.return_, 1)) (hrt : M.rt = none) (hc : kc ≤ M.rm.cells) (hs : ns ≤ M.rm.slots) (hq : Q none h) : X w M Q QX kc ns pc L [] h := by
  intro p e s m args below meth c H locs tys ws ls C hK hP hD hE hS hB hl
  have C0 := C
  obtain ⟨hx, hb, hml, hr, hlk, hown, hts, hin, htab⟩ := C
  refine W.widen hc hs (vx_ret ?_)
  exact W.vret hx hb (hr.trans hrt) (fun t ht hW => ⟨_, h, rfl, hq, ⟨tys, ws, va_K.moved hW.alike hK, by rw [ht]; exact hP, hD, hE⟩, hS.F ht⟩) hS.2.2 hd hlk
end XH

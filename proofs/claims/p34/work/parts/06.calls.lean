
/-! CONTRACTS: for these arguments, in this abstract heap, the method returns so that Q (or throws so that QX) -/
def Cn (w : W0) (y : MethodName) (M : MI) (as : List Value) (h : AH) (Q : Option Value → AH → Prop) : Prop :=
  Met w.la y (Cond.code y M.cd M.ml M.rt :: TB) M.rm (PcX w as h) (QcX w Q) M.rm.cells M.rm.slots (wA w)
def Cv (w : W0) (y : MethodName) (M : MI) (as : List Value) (h : AH) (Q : Option Value → AH → Prop) (QX : String → AH → Prop) : Prop :=
  vx_Met w.la y (Cond.code y M.cd M.ml M.rt :: TB) M.rm (PcX w as h) (QcX w Q) (XcX w QX) M.rm.cells M.rm.slots (wA w)
def Ch (w : W0) (y : MethodName) (M : MI) (as : List Value) (h : AH) (Q : Option Value → AH → Prop) : Prop :=
  Met w.la y (Cond.codeWith y M.cd M.ml M.rt M.hh :: TB) M.rm (PcX w as h) (QcX w Q) M.rm.cells M.rm.slots (wA w)
/-- a method's own facts: its code, its class, how many parameters -/
def MC (y : MethodName) (M : MI) (n : Nat) : Prop :=
  Cond.code y M.cd M.ml M.rt ∈ TB ∧ Cond.initialized y.cls ∈ TB ∧ (y.cls ≠ "java/lang/invoke/MethodHandle" ∧ y.cls ≠ "java/lang/invoke/VarHandle") ∧ (parseMethodDescriptor y.desc).map (fun d => d.parameters.length) = some n ∧ plainName y.cls = true ∧ y.cls = M.ow ∧ M.hh = [] ∧ (M.ii = true → y.name = "<init>")
def MCh (y : MethodName) (M : MI) (n : Nat) : Prop :=
  Cond.codeWith y M.cd M.ml M.rt M.hh ∈ TB ∧ Cond.initialized y.cls ∈ TB ∧ (y.cls ≠ "java/lang/invoke/MethodHandle" ∧ y.cls ≠ "java/lang/invoke/VarHandle") ∧ (parseMethodDescriptor y.desc).map (fun d => d.parameters.length) = some n ∧ plainName y.cls = true ∧ y.cls = M.ow ∧ (M.ii = true → y.name = "<init>")
/-- a callee's room within the caller's -/
def Fit (M' M : MI) : Prop := M'.rm.frames + 1 ≤ M.rm.frames ∧ 8 + (M'.ml + 11) + M'.rm.locals ≤ M.rm.locals
def LkV (own : String) (idx : Nat) (y : MethodName) : Prop := Cond.methodLink own idx y ∈ TB ∧ Cond.instanceMethod y ∈ TB ∧ Cond.selects y.cls y y ∈ TB
def LkS (own : String) (idx : Nat) (y : MethodName) : Prop := Cond.methodLink own idx y ∈ TB ∧ Cond.static y ∈ TB
def LkI (own : String) (idx : Nat) (y : MethodName) : Prop := Cond.methodLink own idx y ∈ TB ∧ Cond.instanceMethod y ∈ TB ∧ y.name = "<init>"
def LkN (own : String) (idx : Nat) (y : MethodName) : Prop := Cond.methodLinkNest own idx y y.cls ∈ NWl ∧ Cond.static y ∈ TB
theorem Met_of_vx {l : Launch} {y : MethodName} {ws : List Cond} {rm : Room} {Pc : Array Value → State → Prop} {Qc : Array Value → State → Outcome → State → Prop} {XC : String → State → State → Prop} {mc ms : Nat} {free : Addr → Prop} (H : vx_Met l y ws rm Pc Qc XC mc ms free) (hX : ∀ E st t, ¬ XC E st t) : Met l y ws rm Pc Qc mc ms free := by
  intro p e ha hc hk s m args below hf happ hP hK
  obtain ⟨n, o, h1, h2, h3, hq⟩ := H p e ha hc hk s m args below hf happ hP hK
  refine ⟨n, o, h1, h2, h3, ?_⟩
  rcases hq with hq | ⟨q, -, E, ce, L, hx, -⟩
  · exact hq
  · exact absurd hx (hX _ _ _)
theorem lg_sl_1 : ∀ (as : List Value), (∀ v ∈ as, v.category = 1) → lg_sl as = as.map Slot.val
  | [], _ => rfl
  | v :: r, h => by
    have h1 := h v List.mem_cons_self
    have ih := lg_sl_1 r (fun x hx => h x (List.mem_cons_of_mem _ hx))
    simp only [lg_sl, List.flatMap_cons, h1] at ih ⊢
    simp [ih]
theorem lv_args_1 : ∀ (as : List Value) (k i : Nat) (v : Value), (∀ v ∈ as, v.category = 1) → as[i]? = some v → (k + i, v) ∈ lv_args k as
  | [], _, _, _, _, hi => by simp at hi
  | u :: r, k, 0, v, h, hi => by
    simp at hi
    subst hi
    exact List.mem_cons_self
  | u :: r, k, i + 1, v, h, hi => by
    have h1 := h u List.mem_cons_self
    have ih := lv_args_1 r (k + 1) i v (fun x hx => h x (List.mem_cons_of_mem _ hx)) (by simpa using hi)
    simp only [lv_args, h1]
    rw [show k + (i + 1) = k + 1 + i by omega]
    exact List.mem_cons_of_mem _ ih
theorem LH_entry {as : List Value} {n : Nat} (hl : as.length ≤ n) (hcat : ∀ v ∈ as, v.category = 1) : LH ((lg_sl as ++ List.replicate (n - (lg_sl as).length) Slot.unset).toArray) n (as.map some ++ List.replicate (n - as.length) none) := by
  have e := lg_sl_1 as hcat
  have hlen : (lg_sl as).length = as.length := by rw [e, List.length_map]
  have h := lv_entry as (n := n) (by rw [hlen]; exact hl)
  refine ⟨h.1, h.2.1, by simp; omega, fun i v hi => ?_⟩
  have hiv : as[i]? = some v := by
    by_cases hil : i < as.length
    · rw [List.getElem?_append_left (by simpa using hil)] at hi
      simpa using hi
    · rw [List.getElem?_append_right (by simpa using hil)] at hi
      have := List.mem_of_getElem? hi
      simp at this
  refine ⟨hcat v (List.mem_of_getElem? hiv), ?_⟩
  have h3 := h.2.2 (0 + i, v) (lv_args_1 as 0 i v hcat hiv)
  simpa using h3
section XC
variable {w : W0} {M : MI} {Q : Option Value → AH → Prop} {QX : String → AH → Prop} {kc ns pc : Nat} {L : List (Option Value)} {st : List Value} {h : AH}
theorem Cv_of {y : MethodName} {n : Nat} {as : List Value} (hc : MC y M n) (hl : as.length ≤ M.ml) (hcat : ∀ v ∈ as, v.category = 1) (hX : X w M Q QX 0 0 0 (as.map some ++ List.replicate (M.ml - as.length) none) [] h) : Cv w y M as h Q QX := by
  obtain ⟨h1, h2, h3, h4, h5, h6, h7, h8⟩ := hc
  refine vx_ofW h5 rfl (fun p e s m args below meth c s₁ B hml htab hv => ?_)
  obtain ⟨rfl, ⟨tys, ws, hK, hP, hD, hE⟩, hB⟩ := hv
  rw [lg_entry_eq]
  have hts := atoms_spec (ws := Cond.code y M.cd M.ml M.rt :: TB) B.pre
  exact hX p e s m _ below meth c s.heap [] tys ws _ ⟨B.exec, B.bytes, hml, B.returns, B.notSynchronized, by rw [← h6]; exact findClass_of_methodNamed B.named, fun t ht => hts t (List.mem_cons_of_mem _ ht), fun hi => by rw [(name_of_methodNamed B.named B.method).1, h8 hi], by
    rw [h7]
    cases hq : c.exceptionTable.toList with
    | nil => rfl
    | cons a r => exact absurd (by rw [hq]; exact List.mem_cons_self) (htab a)⟩ hK hP hD hE va_S.rf hB (LH_entry hl hcat)
theorem Cn_of {y : MethodName} {n : Nat} {as : List Value} (hc : MC y M n) (hl : as.length ≤ M.ml) (hcat : ∀ v ∈ as, v.category = 1) (hX : X w M Q (fun _ _ => False) 0 0 0 (as.map some ++ List.replicate (M.ml - as.length) none) [] h) : Cn w y M as h Q :=
  Met_of_vx (Cv_of hc hl hcat hX) (fun E st t z => by obtain ⟨h', z, -⟩ := z; exact z)
theorem Ch_of {y : MethodName} {n : Nat} {as : List Value} (hc : MCh y M n) (hl : as.length ≤ M.ml) (hcat : ∀ v ∈ as, v.category = 1) (hX : X w M Q (fun _ _ => False) 0 0 0 (as.map some ++ List.replicate (M.ml - as.length) none) [] h) : Ch w y M as h Q := by
  obtain ⟨h1, h2, h3, h4, h5, h6, h8⟩ := hc
  refine Met_of_vx (XC := XcX w (fun _ _ => False)) (vx_ofWH h5 rfl (fun p e s m args below meth c s₁ B hml hv => ?_)) (fun E st t z => by obtain ⟨h', z, -⟩ := z; exact z)
  obtain ⟨rfl, ⟨tys, ws, hK, hP, hD, hE⟩, hB⟩ := hv
  rw [lg_entry_eq]
  have hts := atoms_spec (ws := Cond.codeWith y M.cd M.ml M.rt M.hh :: TB) B.pre
  exact hX p e s m _ below meth c s.heap [] tys ws _ ⟨B.exec, B.bytes, hml, B.returns, B.notSynchronized, by rw [← h6]; exact findClass_of_methodNamed B.named, fun t ht => hts t (List.mem_cons_of_mem _ ht), fun hi => by rw [(name_of_methodNamed B.named B.method).1, h8 hi], vx_table (x := y) B (hts _ List.mem_cons_self)⟩ hK hP hD hE va_S.rf hB (LH_entry hl hcat)
theorem Cn.mono {y : MethodName} {as : List Value} {Q' : Option Value → AH → Prop} (H : Cn w y M as h Q) (hq : ∀ v h', Q v h' → Q' v h') : Cn w y M as h Q' := by
  intro p e ha hc hk s m args below hf happ hP hK
  obtain ⟨n, o, h1, h2, h3, ⟨v, h', e1, e2, e3⟩, h5⟩ := H p e ha hc hk s m args below hf happ hP hK
  exact ⟨n, o, h1, h2, h3, ⟨v, h', e1, hq v h' e2, e3⟩, h5⟩
/-- the state behind a call, seen from the caller -/
theorem run_X {p : Program} {e : Env} {R : Room} {s : State} {m : MethodId} {args : Array Value} {below : List Frame} {meth : Method} {c : Code} {H : Heap} {locs : List Loc} {mc ms : Nat} {ls : Array Slot} {st0 rest : List Value} {Z : State → Prop} {a : Array Value} {Q' : Option Value → AH → Prop}
    (hr : va_Run p w.la e R s m args below meth c H locs kc ns mc ms (F0 m pc ls st0) rest (QcX w Q' a) (wA w)) (hS : va_S (wA w) s.heap H locs)
    (kk : ∀ (v : Option Value) (h' : AH) (H1 : Heap) (locs1 : List Loc) (tys : List (ClassId × FieldType)) (ws : va_W), Q' v h' → va_K w.dg vwCl tys s → va_P w.dg vwCl ws H1 → va_D (wA w) ws → Em tys ws h' → va_S (wA w) s.heap H1 locs1 →
      W p w.la e R s m args below meth c H1 locs1 (kc + mc) (ns + ms) Z (F0 m (pc + 3) ls (v.toList ++ rest))) : W p w.la e R s m args below meth c H locs kc ns Z (F0 m pc ls st0) := by
  intro T hT X9
  obtain ⟨v, st₀, t, T', L', h0, X', hL, e1, e2, ⟨v2, h', hv, hq, ⟨tys, ws, k1, k2, k3, k4⟩, hz, hk⟩, sts⟩ := hr T hT X9
  cases hv
  rw [h0] at hz hk
  obtain ⟨t2, a1, b1⟩ := kk v h' T'.heap (locs ++ L') tys ws hq (va_K.moved (by rw [← e2]; exact X'.warmed.alike.symm) k1) (by rw [e1]; exact k2) k3 k4
    ⟨Nat.le_trans hS.1 (by rw [e1]; exact hz), fun q h1 h2 => by rw [e1, hk q (Nat.lt_of_lt_of_le h1 hS.1) h2]; exact hS.2.1 q h1 h2, fun q hq => by
      rcases List.mem_append.mp hq with h | h
      · exact hS.2.2 q h
      · exact hL q h⟩ T' rfl X'
  exact ⟨t2, sts t2 a1, b1⟩
theorem PcX_blind {as : List Value} : FrameBlind (PcX w as h) := by
  intro a U g mk ⟨h1, ⟨tys, ws, h2, h3, h4, h5⟩, h6⟩
  exact ⟨h1, ⟨tys, ws, va_K.moved (u := U) (U := U.calling g mk a) (Vm.Alike.refl U.vm) h2, h3, h4, h5⟩, SB.to (s := U) (U := U.calling g mk a) h6 (State.WarmedH.refl U) (Nat.le_refl _) (fun _ _ _ => rfl)⟩
theorem PcX_at {s U : State} {H : Heap} {locs : List Loc} {tys : List (ClassId × FieldType)} {ws : va_W} {as : List Value} (hK : va_K w.dg vwCl tys s) (hP : va_P w.dg vwCl ws H) (hD : va_D (wA w) ws) (hE : Em tys ws h) (hS : va_S (wA w) s.heap H locs) (hB : SB w s s.heap) (hU : U.heap = H) (hW : s.WarmedH U.vm) : PcX w as h as.toArray U :=
  ⟨rfl, ⟨tys, ws, va_K.moved hW.alike hK, by rw [hU]; exact hP, hD, hE⟩, hB.to hW (by rw [hU]; exact hS.1) (fun a h1 h2 => by rw [hU]; exact hS.2.1 a h1 h2)⟩
theorem recv_X {s : State} {H : Heap} {tys : List (ClassId × FieldType)} {ws : va_W} {b ci N : Nat} {Cl : String} {T : u_T} {ty : Nat → FieldType} {ks : List Bool} (hK : va_K w.dg vwCl tys s) (hP : va_P w.dg vwCl ws H) (hE : Em tys ws h) (hci : CI ci Cl T N ty ks) (hb : gT h b = ci + 1) : ∃ cell : Cell, H[b]? = some cell ∧ cell.vm.isStatics = false ∧ s.vm.findClass Cl = some cell.cls := by
  obtain ⟨c1, -, -, -, c5, -, c7, -⟩ := hci
  obtain ⟨q0, he⟩ := hE.obj hb c5 c7
  exact va_recv hK hP c1 he
theorem CallB_of {R : Room} {s : State} {args : Array Value} {own : String} {idx n : Nat} {y : MethodName} {M' : MI} (hts : ∀ t ∈ TB, t.before args s = true) (hc : MC y M' n) (hl : Cond.methodLink own idx y ∈ TB) (hR : M'.rm.frames + 1 ≤ R.frames ∧ 8 + (M'.ml + 11) + M'.rm.locals ≤ R.locals) :
    CallB R s args own idx y M'.cd M'.ml M'.rt (Cond.code y M'.cd M'.ml M'.rt :: TB) M'.rm M'.rm.cells M'.rm.slots n := by
  obtain ⟨h1, h2, h3, h4, h5, h6, h7, h8⟩ := hc
  exact callB_of n hts (goodTB (fun t ht => (List.mem_cons.mp ht).elim (fun e => by rw [e]; exact h1) id)) rfl rfl rfl (hts _ h2) (hts _ hl) ⟨h3.1, h3.2, h4⟩ hR
theorem x_callV {idx n b ci N : Nat} {Cl : String} {T : u_T} {ty : Nat → FieldType} {ks : List Bool} {y : MethodName} {M' : MI} {as : List Value} {Q' : Option Value → AH → Prop} (hd : decode M.cd pc = .ok (.invokevirtual idx, 3)) (hlk : LkV M.ow idx y) (hc : MC y M' n) (hf : Fit M' M) (hci : CI ci y.cls T N ty ks) (hn : as.length = n) (hst : (st.map fun v => v.category).sum ≤ 8) (hcl : kc + M'.rm.cells ≤ M.rm.cells) (hsl : ns + M'.rm.slots ≤ M.rm.slots)
    (ht : gT h b = ci + 1) (hm : Cn w y M' (.ref b :: as) h Q') (k : ∀ v h', Q' v h' → X w M Q QX (kc + M'.rm.cells) (ns + M'.rm.slots) (pc + 3) L (v.toList ++ st) h') : X w M Q QX kc ns pc L (as.reverse ++ .ref b :: st) h := by
  intro p e s m args below meth c H locs tys ws ls C hK hP hD hE hS hB hl
  have C0 := C
  obtain ⟨hx, hb, hml, hr, hlock, hown, hts, hin, htab⟩ := C
  refine run_X (va_runV (As := as) (rest := st) ⟨hx, hb, hml, hown, hts⟩ hm ⟨CallB_of hts hc hlk.1 hf, hts _ hlk.2.1, hts _ hlk.2.2⟩ ⟨PcX_blind, recv_X hK hP hE hci ht, fun U hU hW => PcX_at hK hP hD hE hS hB hU hW⟩ rfl hn hl.1 rfl (lv_room hst) hd ⟨hcl, hsl⟩) hS (fun v h' H1 locs1 tys1 ws1 q1 q2 q3 q4 q5 q6 => ?_)
  exact k v h' q1 p e s m args below meth c H1 locs1 tys1 ws1 ls C0 q2 q3 q4 q5 q6 hB hl
theorem x_callS {idx n : Nat} {y : MethodName} {M' : MI} {as : List Value} {Q' : Option Value → AH → Prop} (hd : decode M.cd pc = .ok (.invokestatic idx, 3)) (hlk : LkS M.ow idx y) (hc : MC y M' n) (hf : Fit M' M) (hn : as.length = n) (hst : (st.map fun v => v.category).sum ≤ 8) (hcl : kc + M'.rm.cells ≤ M.rm.cells) (hsl : ns + M'.rm.slots ≤ M.rm.slots)
    (hm : Cn w y M' as h Q') (k : ∀ v h', Q' v h' → X w M Q QX (kc + M'.rm.cells) (ns + M'.rm.slots) (pc + 3) L (v.toList ++ st) h') : X w M Q QX kc ns pc L (as.reverse ++ st) h := by
  intro p e s m args below meth c H locs tys ws ls C hK hP hD hE hS hB hl
  have C0 := C
  obtain ⟨hx, hb, hml, hr, hlock, hown, hts, hin, htab⟩ := C
  refine run_X (va_runS (As := as) (rest := st) ⟨hx, hb, hml, hown, hts⟩ hm ⟨CallB_of hts hc hlk.1 hf, hts _ hlk.2⟩ ⟨PcX_blind, fun U hU hW => PcX_at hK hP hD hE hS hB hU hW⟩ rfl hn hl.1 rfl (lv_room hst) hd ⟨hcl, hsl⟩) hS (fun v h' H1 locs1 tys1 ws1 q1 q2 q3 q4 q5 q6 => ?_)
  exact k v h' q1 p e s m args below meth c H1 locs1 tys1 ws1 ls C0 q2 q3 q4 q5 q6 hB hl
theorem x_callI {idx n b : Nat} {y : MethodName} {M' : MI} {as : List Value} {Q' : Option Value → AH → Prop} (hd : decode M.cd pc = .ok (.invokespecial idx, 3)) (hlk : LkI M.ow idx y) (hc : MC y M' n) (hrt : M'.rt = none) (hf : Fit M' M) (hn : as.length = n) (hst : (st.map fun v => v.category).sum ≤ 8) (hcl : kc + M'.rm.cells ≤ M.rm.cells) (hsl : ns + M'.rm.slots ≤ M.rm.slots)
    (hm : Cn w y M' (.ref b :: as) h Q') (k : ∀ v h', Q' v h' → X w M Q QX (kc + M'.rm.cells) (ns + M'.rm.slots) (pc + 3) L (v.toList ++ st) h') : X w M Q QX kc ns pc L (as.reverse ++ .ref b :: st) h := by
  intro p e s m args below meth c H locs tys ws ls C hK hP hD hE hS hB hl
  have C0 := C
  obtain ⟨hx, hb, hml, hr, hlock, hown, hts, hin, htab⟩ := C
  have hcb := CallB_of (R := M.rm) hts hc hlk.1 hf
  unfold Cn at hm
  rw [hrt] at hcb hm
  refine run_X (va_runI (As := as) (rest := st) ⟨hx, hb, hml, hown, hts⟩ hm ⟨hcb, hlk.2.2, hts _ hlk.2.1⟩ ⟨PcX_blind, fun U hU hW => PcX_at hK hP hD hE hS hB hU hW⟩ rfl hn hl.1 rfl (lv_room hst) hd ⟨hcl, hsl⟩) hS (fun v h' H1 locs1 tys1 ws1 q1 q2 q3 q4 q5 q6 => ?_)
  exact k v h' q1 p e s m args below meth c H1 locs1 tys1 ws1 ls C0 q2 q3 q4 q5 q6 hB hl
theorem x_callN {idx n : Nat} {y : MethodName} {M' : MI} {as : List Value} {Q' : Option Value → AH → Prop} (hd : decode M.cd pc = .ok (.invokestatic idx, 3)) (hlk : LkN M.ow idx y) (hc : MC y M' n) (hf : Fit M' M) (hn : as.length = n) (hst : (st.map fun v => v.category).sum ≤ 8) (hcl : kc + M'.rm.cells ≤ M.rm.cells) (hsl : ns + M'.rm.slots ≤ M.rm.slots)
    (hm : Cn w y M' as h Q') (k : ∀ v h', Q' v h' → X w M Q QX (kc + M'.rm.cells) (ns + M'.rm.slots) (pc + 3) L (v.toList ++ st) h') : X w M Q QX kc ns pc L (as.reverse ++ st) h := by
  intro p e s m args below meth c H locs tys ws ls C hK hP hD hE hS hB hl
  have C0 := C
  obtain ⟨hx, hb, hml, hr, hlock, hown, hts, hin, htab⟩ := C
  obtain ⟨h1, h2, h3, h4, h5, h6, h7, h8⟩ := hc
  have hcn : va_CN M.rm s args M.ow idx y y.cls M'.cd M'.ml M'.rt (Cond.code y M'.cd M'.ml M'.rt :: TB) M'.rm M'.rm.cells M'.rm.slots n := va_cnB n hts (goodTB (fun t ht => (List.mem_cons.mp ht).elim (fun e => by rw [e]; exact h1) id)) rfl rfl rfl (hB.2.2.2.2.2.2.2.2.2.1 _ hlk.1) (hts _ h2) ⟨h3.1, h3.2, h4⟩ hf
  refine run_X (va_runSN (As := as) (rest := st) ⟨hx, hb, hml, hown, hts⟩ hm ⟨hcn, hts _ hlk.2, trivial⟩ ⟨PcX_blind, fun U hU hW => PcX_at hK hP hD hE hS hB hU hW⟩ rfl hn hl.1 rfl (lv_room hst) hd ⟨hcl, hsl⟩) hS (fun v h' H1 locs1 tys1 ws1 q1 q2 q3 q4 q5 q6 => ?_)
  exact k v h' q1 p e s m args below meth c H1 locs1 tys1 ws1 ls C0 q2 q3 q4 q5 q6 hB hl
/-- a static call of a method with handlers of its own -/
theorem x_callH {idx n : Nat} {y : MethodName} {M' : MI} {as : List Value} {Q' : Option Value → AH → Prop} (hd : decode M.cd pc = .ok (.invokestatic idx, 3)) (hlk : LkS M.ow idx y) (hc : MCh y M' n) (hf : Fit M' M) (hn : as.length = n) (hst : (st.map fun v => v.category).sum ≤ 8) (hcl : kc + M'.rm.cells ≤ M.rm.cells) (hsl : ns + M'.rm.slots ≤ M.rm.slots)
    (hm : Ch w y M' as h Q') (k : ∀ v h', Q' v h' → X w M Q QX (kc + M'.rm.cells) (ns + M'.rm.slots) (pc + 3) L (v.toList ++ st) h') : X w M Q QX kc ns pc L (as.reverse ++ st) h := by
  intro p e s m args below meth c H locs tys ws ls C hK hP hD hE hS hB hl
  have C0 := C
  obtain ⟨hx, hb, hml, hr, hlock, hown, hts, hin, htab⟩ := C
  obtain ⟨h1, h2, h3, h4, h5, h6, h8⟩ := hc
  have hg : GoodIn TB (va_wsS M.ow idx y (Cond.codeWith y M'.cd M'.ml M'.rt M'.hh :: TB)) := goodTB (fun t ht => by
    rcases List.mem_append.mp ht with ht | ht
    · simp only [List.mem_cons, List.not_mem_nil, or_false] at ht
      rcases ht with rfl | rfl | rfl
      · exact hlk.1
      · exact hlk.2
      · exact h2
    · exact (List.mem_cons.mp ht).elim (fun e => by rw [e]; exact h1) id)
  refine run_X (vx_runSW (hh := M'.hh) (As := as) (rest := st) ⟨hx, hb, hml, hown, hts⟩ hm (vx_cwSW n hts hg rfl rfl rfl ⟨h3.1, h3.2, h4⟩ hf) ⟨PcX_blind, fun U hU hW => PcX_at hK hP hD hE hS hB hU hW⟩ rfl hn hl.1 rfl (lv_room hst) hd ⟨hcl, hsl⟩) hS (fun v h' H1 locs1 tys1 ws1 q1 q2 q3 q4 q5 q6 => ?_)
  exact k v h' q1 p e s m args below meth c H1 locs1 tys1 ws1 ls C0 q2 q3 q4 q5 q6 hB hl
/-- where a throw of E at pc is caught -/
def HDL (M : MI) (E : String) (pc tgt : Nat) : Prop := ∃ (pre : List ExceptionTableEntry) (x : ExceptionTableEntry) (suf : List ExceptionTableEntry) (name : String), tableOf M.hh = pre ++ x :: suf ∧
  (∀ z ∈ pre, covers z pc = false ∨ (z.catchType ≠ 0 ∧ ∃ nm : String, Cond.classLink M.ow z.catchType nm ∈ TB ∧ (E, nm) ∈ NCl)) ∧ covers x pc = true ∧ x.catchType ≠ 0 ∧ Cond.classLink M.ow x.catchType name ∈ TB ∧ Cond.castable E name ∈ NWl ∧ x.handlerPc = tgt
theorem x_callX {idx n b ci N : Nat} {Cl : String} {T : u_T} {ty : Nat → FieldType} {ks : List Bool} {y : MethodName} {M' : MI} {as : List Value} {Q' : Option Value → AH → Prop} {QX' : String → AH → Prop} (hd : decode M.cd pc = .ok (.invokevirtual idx, 3)) (hlk : LkV M.ow idx y) (hc : MC y M' n) (hf : Fit M' M) (hci : CI ci y.cls T N ty ks) (hn : as.length = n) (hst : (st.map fun v => v.category).sum ≤ 8) (hcl : kc + M'.rm.cells ≤ M.rm.cells) (hsl : ns + M'.rm.slots ≤ M.rm.slots)
    (ht : gT h b = ci + 1) (hm : Cv w y M' (.ref b :: as) h Q' QX') (k : ∀ v h', Q' v h' → X w M Q QX (kc + M'.rm.cells) (ns + M'.rm.slots) (pc + 3) L (v.toList ++ st) h')
    (kx : ∀ E h', QX' E h' → ∃ tgt, HDL M E pc tgt ∧ ∀ q, X w M Q QX (kc + M'.rm.cells) (ns + M'.rm.slots) tgt L [.ref q] h') : X w M Q QX kc ns pc L (as.reverse ++ .ref b :: st) h := by
  intro p e s m args below meth c H locs tys ws ls C hK hP hD hE hS hB hl
  have C0 := C
  obtain ⟨hx, hb, hml, hr, hlock, hown, hts, hin, htab⟩ := C
  have hr0 := vx_runV (l := w.la) (p := p) (e := e) (below := below) (meth := meth) (locs := locs) (cells := kc) (slots := ns) (g := F0 m pc ls (as.reverse ++ .ref b :: st)) (As := as) (rest := st) ⟨hx, hb, hml, hown, hts⟩ hm ⟨CallB_of (R := M.rm) hts hc hlk.1 hf, hts _ hlk.2.1, hts _ hlk.2.2⟩ ⟨PcX_blind, recv_X hK hP hE hci ht, fun U hU hW => PcX_at hK hP hD hE hS hB hU hW⟩ rfl hn hl.1 rfl (lv_room hst) hd ⟨hcl, hsl⟩
  intro T hT X9
  rcases hr0 T hT X9 with ⟨v, st₀, t, T', L', h0, X', hL, e1, e2, ⟨v2, h', hv, hq, ⟨tys1, ws1, k1, k2, k3, k4⟩, hz, hk⟩, sts⟩ | ⟨q, st₀, t, T', L', E, ce, h0, X', hL, e1, e2, ⟨h', hq, ⟨tys1, ws1, k1, k2, k3, k4⟩, hz, hk⟩, hce, hcv, hcl1, sts⟩
  · cases hv
    rw [h0] at hz hk
    have hS1 : va_S (wA w) s.heap T'.heap (locs ++ L') := ⟨Nat.le_trans hS.1 (by rw [e1]; exact hz), fun q h1 h2 => by rw [e1, hk q (Nat.lt_of_lt_of_le h1 hS.1) h2]; exact hS.2.1 q h1 h2, fun q hq => by
      rcases List.mem_append.mp hq with h | h
      · exact hS.2.2 q h
      · exact hL q h⟩
    obtain ⟨t2, a1, b1⟩ := k v h' hq p e s m args below meth c T'.heap (locs ++ L') tys1 ws1 ls C0 (va_K.moved (by rw [← e2]; exact X'.warmed.alike.symm) k1) (by rw [e1]; exact k2) k3 k4 hS1 hB hl T' rfl X'
    exact ⟨t2, sts t2 a1, b1⟩
  · rw [h0] at hz hk
    have hS1 : va_S (wA w) s.heap T'.heap (locs ++ L') := ⟨Nat.le_trans hS.1 (by rw [e1]; exact hz), fun q h1 h2 => by rw [e1, hk q (Nat.lt_of_lt_of_le h1 hS.1) h2]; exact hS.2.1 q h1 h2, fun q hq => by
      rcases List.mem_append.mp hq with h | h
      · exact hS.2.2 q h
      · exact hL q h⟩
    obtain ⟨tgt, ⟨pre, x, suf, name, g1, g2, g3, g4, g5, g6, g7⟩, kX⟩ := kx E h' hq
    have w1 := kX q p e s m args below meth c T'.heap (locs ++ L') tys1 ws1 ls C0 (va_K.moved (by rw [← e2]; exact X'.warmed.alike.symm) k1) (by rw [e1]; exact k2) k3 k4 hS1 hB hl
    rw [← g7] at w1
    have w2 := vx_catch (rest := st) (ce := ce) hown pre x suf (by rw [htab]; exact g1) (fun z hz => (g2 z hz).imp id (fun z1 => ⟨z1.1, by obtain ⟨nm, z2, z3⟩ := z1.2; exact ⟨nm, hts _ z2, hB.2.2.2.2.2.2.2.2.2.2.2.1 _ z3⟩⟩)) g3 g4 (hts _ g5) (va_Nw.use rfl (hB.2.2.2.2.2.2.2.2.2.1 _ g6)) (by rw [e1]; exact hce) hcv hcl1 w1
    obtain ⟨t2, a1, b1⟩ := w2 T' rfl X'
    exact ⟨t2, sts.trans a1, b1⟩
def exN : List String := ["java/lang/RuntimeException", "java/lang/Exception"]
/-- what a 'throw new E(text)' needs of the tables -/
def TH (own cls : String) (ik is ic : Nat) : Prop :=
  Bundle.fit cls = true ∧ Cond.classLink own ik cls ∈ TB ∧ Cond.initialized cls ∈ TB ∧ (∃ text, (own, is, text) ∈ STl) ∧ (∀ t ∈ vx_atS own ic cls exN, t ∈ TB ∨ t ∈ NWl) ∧ (∀ t ∈ Cond.classLink own ik cls :: Cond.initialized cls :: vx_atS own ic cls exN, vx_ot t = true)
theorem NWl_onT : ∀ c ∈ NWl, c.onTables = true := by decide +kernel
theorem x_throw {cls : String} {ik is ic : Nat} (d0 : decode M.cd pc = .ok (.new ik, 3)) (d3 : decode M.cd (pc + 3) = .ok (.dup, 1)) (d4 : decode M.cd (pc + 4) = .ok (.ldc is, 2)) (d6 : decode M.cd (pc + 6) = .ok (.invokespecial ic, 3)) (d9 : decode M.cd (pc + 9) = .ok (.athrow, 1)) (hth : TH M.ow cls ik is ic)
    (hh : M.hh = []) (hf : 5 < M.rm.frames) (hlo : (st.map fun v => v.category).sum + 82 ≤ M.rm.locals) (hc : kc + 1 ≤ M.rm.cells) (hs : ns + 6 ≤ M.rm.slots) (hq : QX cls h) : X w M Q QX kc ns pc L st h := by
  intro p e s m args below meth c H locs tys ws ls C hK hP hD hE hS hB hl
  have C0 := C
  obtain ⟨hx, hb, hml, hr, hlock, hown, hts, hin, htab⟩ := C
  obtain ⟨g1, g2, g3, ⟨text, g4⟩, g5, g6⟩ := hth
  obtain ⟨sa, hsa⟩ := hB.2.2.2.2.2.2.2.2.2.2.1 _ g4
  exact vx_throwS (names := exN) (own := M.ow) (ik := ik) (ic := ic) (text := text) hx hb hB.1 hown g1 (by decide +kernel) (hts _ g2) (hts _ g3) hsa (fun t ht => (g5 t ht).elim (hts t) (fun z => va_Nw.use (NWl_onT t z) (hB.2.2.2.2.2.2.2.2.2.1 t z))) g6 hB.2.2.1 hB.2.2.2.1 hS (by rw [hml, hl.1]) d0 d3 d4 d6 d9 (fun x hx2 => by rw [htab, hh] at hx2; cases hx2)
    hf hlo hc hs hlock (fun t ht hz hk => ⟨h, hq, ⟨tys, ws, va_K.moved ht hK, hP.kept (fun k q hk2 => hk q.1 ((hP k q hk2).lt)), hD, hE⟩, Nat.le_trans hS.1 hz, fun q h1 h2 => by rw [hk q (Nat.lt_of_lt_of_le h1 hS.1)]; exact hS.2.1 q h1 h2⟩) hS.2.2 hc hs
end XC

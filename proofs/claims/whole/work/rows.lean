section
/-! ===== BEGIN words of one list among another's, by their places ===== -/
theorem goodIn_r {big : List Cond} (ws : List Cond) (ps : List Nat) (hp : ws = ps.filterMap (fun i => big[i]?)) (h : ws.all goodWord = true) : GoodIn big ws := by
  intro w hw
  have h1 := List.all_eq_true.mp h w hw
  rw [hp] at hw
  obtain ⟨i, -, hi⟩ := List.mem_filterMap.mp hw
  have hm : w ∈ big := by first | exact List.mem_of_getElem? hi | exact List.getElem?_mem hi
  exact ⟨hm, good_of_word h1⟩
theorem goodIn_app {big a b : List Cond} (ha : GoodIn big a) (hb : GoodIn big b) : GoodIn big (a ++ b) := fun w h => (List.mem_append.mp h).elim (ha w) (hb w)
theorem goodIn_ca {big a b : List Cond} {c : Cond} (ha : GoodIn big (c :: a)) (hb : GoodIn big b) : GoodIn big (c :: (a ++ b)) := fun w h => (List.mem_cons.mp h).elim (fun e => ha w (List.mem_cons.mpr (Or.inl e))) (fun h => (List.mem_append.mp h).elim (fun h => ha w (List.mem_cons.mpr (Or.inr h))) (hb w))
theorem goodIn_sub {big ws : List Cond} (hm : ∀ w ∈ ws, w ∈ big) (h : ws.all goodWord = true) : GoodIn big ws := fun w hw => ⟨hm w hw, good_of_word (List.all_eq_true.mp h w hw)⟩
/-! ===== END ===== -/

/-! ===== BEGIN exceptions that leave a method, and their catching by the caller (launches without stack traces) ===== -/
section VXA
/-! The laws vx_back, vx_callV, vx_callS, vx_callSW, vx_throw0, vx_throwS follow proofs of the library, with one case more: JvmDerived/Free/Laws.lean (Back.of_free), Shelf42/LK1.lean (callV, callS), Shelf/KitTraced.lean (throwNew0V, throwNewS). -/
/-- where a method has thrown q: the class by its name, the cell, what was written, the world -/
def vx_T (XC : String → State → State → Prop) (st : State) (q : Addr) (t : State) (mc ms : Nat) (free : Addr → Prop) : Prop :=
  ∃ (E : String) (ce : Cell) (L : List Loc), XC E st t ∧ t.heap[q]? = some ce ∧ ce.vm = .none ∧ st.vm.findClass E = some ce.cls ∧ st.WarmedH t.vm ∧ st.sameButNew ({ t with vm := st.vm } : State) L mc ms ∧ ∀ z ∈ L, free z.base
def vx_Q (Qc : Array Value → State → Outcome → State → Prop) (XC : String → State → State → Prop) (mc ms : Nat) (free : Addr → Prop) : Array Value → State → Outcome → State → Prop := fun a st o t =>
  (Qc a st o t ∧ ∃ L, FrameEnd st o t L mc ms ∧ ∀ q ∈ L, free q.base) ∨ ∃ q, o = .threw q ∧ vx_T XC st q t mc ms free
/-- a callee that returns or throws -/
def vx_Met (l : Launch) (y : MethodName) (ws : List Cond) (rm : Room) (Pc : Array Value → State → Prop) (Qc : Array Value → State → Outcome → State → Prop) (XC : String → State → State → Prop) (mc ms : Nat) (free : Addr → Prop) : Prop :=
  MetFree l y (headSpec ws rm) Pc (fun _ _ _ _ _ => True) (vx_Q Qc XC mc ms free)
def vx_Post (XC : String → State → State → Prop) (mc ms : Nat) (free : Addr → Prop) : Pt → Array Value → Addr → Pt → Prop := fun A a q B =>
  ∃ (g : JFrame) (mk : MethodId) (t : State) (L : List Loc) (E : String) (ce : Cell), B.U.heap = t.heap ∧ B.U.vm = t.vm ∧ XC E (A.U.calling g mk a) t ∧ t.heap[q]? = some ce ∧ ce.vm = .none ∧ A.U.vm.findClass E = some ce.cls ∧ B.locs = A.locs ++ L ∧ (∀ z ∈ L, free z.base) ∧ B.cells = A.cells + mc ∧ B.slots = A.slots + ms
def vx_Back (l : Launch) (R : Room) (p : Program) (e : Env) (below : List Frame) (s : State) (sargs : Array Value) (y : MethodName) (len W9 : Nat)
    (Pre : Pt → Array Value → Prop) (Post : Pt → Array Value → Option Value → Pt → Prop) (PostX : Pt → Array Value → Addr → Pt → Prop) : Prop :=
  ∀ (m : MethodId) (meth : Method) (c : Code) (A : Pt) (g : JFrame) (ig : Instr) (mk : MethodId) (a : Array Value),
    Stand p l e R s m sargs below meth c A.U A.locs A.cells A.slots → g.method = m → g.locals.size = c.maxLocals → decode c.code g.pc = .ok (ig, len) →
    2 * g.monitorRoom + (g.stack.map fun v => v.category).sum ≤ W9 → A.U.methodNamed? y = some mk → Pre A a →
    (∃ (v : Option Value) (B : Pt), Stand p l e R s m sargs below meth c B.U B.locs B.cells B.slots ∧ Post A a v B ∧
      Steps p.tables e below (doInvoke e (A.U.setTop g) [] mk a).1 (B.U.setTop { g with pc := g.pc + len, stack := v.toList ++ g.stack })) ∨
    (∃ (q : Addr) (B : Pt), Stand p l e R s m sargs below meth c B.U B.locs B.cells B.slots ∧ PostX A a q B ∧
      Steps p.tables e below (doInvoke e (A.U.setTop g) [] mk a).1 ((B.U.setTop g).pushFrame (.throwing q)))
section Payer
variable {l : Launch} {R : Room} {p : Program} {e : Env} {below : List Frame} {s : State} {sargs : Array Value} {y : MethodName} {len W9 : Nat}
theorem vx_back {ws : List Cond} {rm : Room} {Pc : Array Value → State → Prop} {Qc : Array Value → State → Outcome → State → Prop} {XC : String → State → State → Prop} {mc ms : Nat} {free : Addr → Prop} {bytes : ByteArray} {maxL : Nat} {ret : Option FieldType}
    (hM : vx_Met l y ws rm Pc Qc XC mc ms free) (hblind : FrameBlind Pc) (hrc : rm.cells = mc) (hrs : rm.slots = ms)
    (hframes : rm.frames + 1 ≤ R.frames) (hlocals : W9 + (maxL + 11) + rm.locals ≤ R.locals)
    (hws : ∀ w ∈ ws, ∀ a' U, s.WarmedH U.vm → w.before a' U = true) (hcode : Cond.code y bytes maxL ret ∈ ws) (hinit : ∀ a' U, s.WarmedH U.vm → (Cond.initialized y.cls).before a' U = true) :
    vx_Back l R p e below s sargs y len W9 (PreOf R mc ms Pc) (PostOf Qc mc ms free) (vx_Post XC mc ms free) := by
  intro m meth c A g ig mk a X hg hsize hdg hW hn hp
  have h1 : (headSpec ws rm).pre.before a A.U = true := atoms_intro fun w hw => hws w hw _ _ X.warmed
  have h2 : (Cond.code y bytes maxL ret).before a A.U = true := hws _ hcode _ _ X.warmed
  have h3 : (Cond.initialized y.cls).before a A.U = true := hinit _ _ X.warmed
  have h4 : A.cells + (headSpec ws rm).room.cells ≤ R.cells := by rw [show (headSpec ws rm).room.cells = mc from hrc]; exact hp.1
  have h5 : A.slots + (headSpec ws rm).room.slots ≤ R.slots := by rw [show (headSpec ws rm).room.slots = ms from hrs]; exact hp.2.1
  have hPc : Pc a (A.U.calling g mk a) := hblind _ _ _ _ hp.2.2
  obtain ⟨U, Ls, c0, s0⟩ := A
  dsimp only [Pt.U, Pt.locs, Pt.cells, Pt.slots] at h1 h2 h3 h4 h5 X hn hPc ⊢
  obtain ⟨methY, cY, hmY, hcY, -, hlY, -, -, -, -⟩ := Cond.code_spec hn h2
  obtain ⟨kY, hkY, -⟩ := className_of_methodNamed hn
  have hinitY : kY.init = .initialized := Cond.initialized_spec (findClass_of_methodNamed hn) hkY h3
  have h : At U g.method c below := by rw [hg]; exact X.here
  have hlocals9 : W9 + (maxL + 11) + (headSpec ws rm).room.locals ≤ R.locals := hlocals
  have happ : (headSpec ws rm).appliesLoose y e.platform (U.calling g mk a) = true :=
    Spec.appliesLoose_calling (g := g) h hdg hn hkY hinitY
      (X.room_calling (g := g) (R' := (headSpec ws rm).room) hsize hmY hcY hframes (by rw [hlY]; omega) h4 h5) h1
  obtain ⟨mid, hmid⟩ := h.above
  have hfr : (U.setTop g).frames = (.java g :: mid) ++ below := by rw [State.frames_setTop' g h.top, hmid]; rfl
  obtain ⟨o, s₂, hsteps, -, hend, hq⟩ := Steps.callFree hM p X.admits X.cas X.clock (acts := []) hfr happ hPc trivial
  have hq' : vx_Q Qc XC mc ms free a (U.calling g mk a) o s₂ := hq
  rw [State.frames_setTop' g h.top] at hend
  obtain ⟨g₀, hg0⟩ := Option.isSome_iff_exists.mp h.top
  obtain ⟨r, hr⟩ := State.topJava?_eq_some.mp hg0
  have hr' : (({ U with heap := s₂.heap, slotsUsed := s₂.slotsUsed } : State).setVm s₂.vm).frames = .java g₀ :: r := hr
  rcases hq' with ⟨hqc, L, hfe, hL⟩ | ⟨q, rfl, E, ce, L, hx, hce, hcv, hcl, hW₂, hsm, hL⟩
  · obtain ⟨⟨v, rfl⟩, hW₂, e2, q2, q3, q4, q5, q6⟩ := id hfe
    have e3 : s₂ = ({ (U.calling g mk a).setFrames s₂.frames with heap := s₂.heap, slotsUsed := s₂.slotsUsed } : State).setVm s₂.vm := by
      have : s₂ = ({ s₂ with vm := (U.calling g mk a).vm } : State).setVm s₂.vm := rfl
      rw [e2] at this
      exact this
    obtain ⟨c₂, i₂, len₂, hc₂, hd₂, hf₂⟩ := hend
    have hW' : U.WarmedH s₂.vm := hW₂
    have hcc : c₂ = c := by
      have h1 : s₂.code? g.method = U.code? g.method := by
        rw [State.code?_eq, State.code?_eq, hW'.alike.method?]
      exact Option.some.inj (hc₂.symm.trans (h1.trans h.code))
    subst hcc
    have hlen : len₂ = len := by rw [hdg] at hd₂; cases hd₂; rfl
    subst hlen
    have hs₂ : s₂ = (({ U with heap := s₂.heap, slotsUsed := s₂.slotsUsed } : State).setVm s₂.vm).setTop { g with pc := g.pc + len₂, stack := v.toList ++ g.stack } := by
      refine e3.trans ?_
      rw [hf₂, State.calling_eq h.top, State.setFrames_setFrames, State.setTop_of_frames _ hr', hr]
      rfl
    have hsame : U.sameButNew ({ U with heap := s₂.heap, slotsUsed := s₂.slotsUsed } : State) L mc ms := by
      refine ⟨?_, q2, q3, q4, q5, q6⟩
      obtain ⟨t, ht, -⟩ := State.frames_cons hr
      show ({ U with heap := s₂.heap, slotsUsed := s₂.slotsUsed } : State) = { U.setFrames U.frames with heap := s₂.heap, slotsUsed := s₂.slotsUsed }
      rw [State.setFrames_self ht]
    subst hg
    refine Or.inl ⟨v, ⟨(({ U with heap := s₂.heap, slotsUsed := s₂.slotsUsed } : State).setVm s₂.vm), Ls ++ L, c0 + mc, s0 + ms⟩,
      ⟨X.admits, X.cas, X.clock, X.frames, X.room, X.hears, X.method, X.code, (X.here.setHeapUsed s₂.heap s₂.slotsUsed).setVm hW'.alike, X.tail, State.WarmedH.trans X.warmed hW', X.limits, X.bytes, X.same.trans (hsame.setVm s.vm)⟩,
      ⟨g, mk, s₂, L, rfl, rfl, hqc, rfl, hL, rfl, rfl⟩, ?_⟩
    show Steps p.tables e below _ ((({ U with heap := s₂.heap, slotsUsed := s₂.slotsUsed } : State).setVm s₂.vm).setTop { g with pc := g.pc + len₂, stack := v.toList ++ g.stack })
    rw [← hs₂]
    exact hsteps
  · obtain ⟨e2, q2, q3, q4, q5, q6⟩ := id hsm
    have e3 : s₂ = ({ (U.calling g mk a).setFrames s₂.frames with heap := s₂.heap, slotsUsed := s₂.slotsUsed } : State).setVm s₂.vm := by
      have : s₂ = ({ s₂ with vm := (U.calling g mk a).vm } : State).setVm s₂.vm := rfl
      rw [e2] at this
      exact this
    have hf₂ : s₂.frames = .throwing q :: .java g :: U.frames.tail := hend
    have hW' : U.WarmedH s₂.vm := hW₂
    have hs₂ : s₂ = ((({ U with heap := s₂.heap, slotsUsed := s₂.slotsUsed } : State).setVm s₂.vm).setTop g).pushFrame (.throwing q) := by
      refine e3.trans ?_
      rw [hf₂, State.calling_eq h.top, State.setFrames_setFrames, State.pushFrame, State.frames_setTop _ hr', State.setTop_of_frames _ hr', State.setFrames_setFrames, hr]
      rfl
    have hsame : U.sameButNew ({ U with heap := s₂.heap, slotsUsed := s₂.slotsUsed } : State) L mc ms := by
      refine ⟨?_, q2, q3, q4, q5, q6⟩
      obtain ⟨t, ht, -⟩ := State.frames_cons hr
      show ({ U with heap := s₂.heap, slotsUsed := s₂.slotsUsed } : State) = { U.setFrames U.frames with heap := s₂.heap, slotsUsed := s₂.slotsUsed }
      rw [State.setFrames_self ht]
    subst hg
    refine Or.inr ⟨q, ⟨(({ U with heap := s₂.heap, slotsUsed := s₂.slotsUsed } : State).setVm s₂.vm), Ls ++ L, c0 + mc, s0 + ms⟩,
      ⟨X.admits, X.cas, X.clock, X.frames, X.room, X.hears, X.method, X.code, (X.here.setHeapUsed s₂.heap s₂.slotsUsed).setVm hW'.alike, X.tail, State.WarmedH.trans X.warmed hW', X.limits, X.bytes, X.same.trans (hsame.setVm s.vm)⟩,
      ⟨g, mk, s₂, L, E, ce, rfl, rfl, hx, hce, hcv, hcl, rfl, hL, rfl, rfl⟩, ?_⟩
    show Steps p.tables e below _ (((({ U with heap := s₂.heap, slotsUsed := s₂.slotsUsed } : State).setVm s₂.vm).setTop g).pushFrame (.throwing q))
    rw [← hs₂]
    exact hsteps
end Payer
section Calls
variable {p : Program} {l : Launch} {e : Env} {R : Room} {s : State} {m : MethodId} {args : Array Value} {below : List Frame} {meth : Method} {c : Code} {T : State} {locs : List Loc} {cells slots : Nat}
theorem vx_callV (X : Stand p l e R s m args below meth c T locs cells slots) (hexec : p.tables.exec = Jvm.exec) {own C : String} {index : Nat} {y : MethodName} {bytes : ByteArray} {maxL : Nat} {ret : Option FieldType}
    (hown : s.vm.findClass own = some m.cls) (hlink : (Cond.methodLink own index y).before args s = true) (hinst : (Cond.instanceMethod y).before args s = true) (hsel : (Cond.selects C y y).before args s = true)
    (hcode : (Cond.code y bytes maxL ret).before args s = true) (hy : y.cls ≠ "java/lang/invoke/MethodHandle" ∧ y.cls ≠ "java/lang/invoke/VarHandle")
    {W9 : Nat} {Pre : Pt → Array Value → Prop} {Post : Pt → Array Value → Option Value → Pt → Prop} {PostX : Pt → Array Value → Addr → Pt → Prop} (hK : vx_Back l R p e below s args y 3 W9 Pre Post PostX)
    {b : Addr} {cellB : Cell} (hcell : T.heap[b]? = some cellB) (hobj : cellB.vm.isStatics = false) (hcls : s.vm.findClass C = some cellB.cls)
    {g : JFrame} (hg : g.method = m) (hsize : g.locals.size = c.maxLocals) {argsL rest : List Value} (hlen : ∀ sig, parseMethodDescriptor y.desc = some sig → argsL.length = sig.parameters.length)
    (hstack : g.stack = argsL.reverse ++ .ref b :: rest) (hW : 2 * g.monitorRoom + (rest.map fun v => v.category).sum ≤ W9) (hdg : decode c.code g.pc = .ok (.invokevirtual index, 3))
    (hpre : ∀ vm₁, s.WarmedH vm₁ → Pre ⟨T.setVm vm₁, locs, cells, slots⟩ (Value.ref b :: argsL).toArray) :
    (∃ (v : Option Value) (vm₁ : Vm) (B : Pt), s.WarmedH vm₁ ∧ Stand p l e R s m args below meth c B.U B.locs B.cells B.slots ∧ Post ⟨T.setVm vm₁, locs, cells, slots⟩ (Value.ref b :: argsL).toArray v B ∧
      ∀ target, Steps p.tables e below (B.U.setTop { g with pc := g.pc + 3, stack := v.toList ++ rest }) target → Steps p.tables e below (T.setTop g) target) ∨
    (∃ (q : Addr) (vm₁ : Vm) (B : Pt), s.WarmedH vm₁ ∧ Stand p l e R s m args below meth c B.U B.locs B.cells B.slots ∧ PostX ⟨T.setVm vm₁, locs, cells, slots⟩ (Value.ref b :: argsL).toArray q B ∧
      Steps p.tables e below (T.setTop g) ((B.U.setTop { g with stack := rest }).pushFrame (.throwing q))) := by
  obtain ⟨mk, methM, hnamed, hmethM, hstM, habM⟩ := Cond.instanceMethod_spec hinst
  obtain ⟨methM', cM, hmethM', -, -, -, -, -, -, hsigM⟩ := Cond.code_spec hnamed hcode
  cases hmethM.symm.trans hmethM'
  obtain ⟨c2, r2, m2, q1, q2, q3, q4, kP, hkP, hkPi⟩ := Cond.selects_spec hsel
  cases hcls.symm.trans q1
  cases (State.methodFound?_of_named hnamed hy).symm.trans q2
  cases hnamed.symm.trans q3
  have hselP : selectMethod e.platform s.vm cellB.cls mk = .method mk := by rw [Launch.admits_selectMethod X.admits]; exact q4
  obtain ⟨vm₁, X₁, hstep₁⟩ := X.invokevirtual hexec hown hlink hnamed hmethM hstM hkP hkPi hy (a := b) (cell := cellB) hcell
    (fun z h => by rw [h] at hobj; cases hobj) hselP hmethM habM hkP hkPi (g := g) hg (argsL := argsL) (rest := rest) (hlen _ hsigM) hstack hdg
  rcases hK m meth c ⟨T.setVm vm₁, locs, cells, slots⟩ { g with stack := rest } (.invokevirtual index) mk (Value.ref b :: argsL).toArray X₁ hg hsize hdg hW (X₁.named hnamed) (hpre vm₁ X₁.warmed) with ⟨v, B, X', hpost, hsteps⟩ | ⟨q, B, X', hpost, hsteps⟩
  · exact Or.inl ⟨v, vm₁, B, X₁.warmed, X', hpost, fun target h => hstep₁ _ fun acts => by rw [doInvoke_state]; exact hsteps.trans h⟩
  · exact Or.inr ⟨q, vm₁, B, X₁.warmed, X', hpost, hstep₁ _ fun acts => by rw [doInvoke_state]; exact hsteps⟩
theorem vx_callS (X : Stand p l e R s m args below meth c T locs cells slots) (hexec : p.tables.exec = Jvm.exec) {own : String} {index : Nat} {y : MethodName} {bytes : ByteArray} {maxL : Nat} {ret : Option FieldType}
    (hown : s.vm.findClass own = some m.cls) (hlink : (Cond.methodLink own index y).before args s = true) (hstat : (Cond.static y).before args s = true) (hinit : (Cond.initialized y.cls).before args s = true)
    (hcode : (Cond.code y bytes maxL ret).before args s = true) (hy : y.cls ≠ "java/lang/invoke/MethodHandle" ∧ y.cls ≠ "java/lang/invoke/VarHandle")
    {W9 : Nat} {Pre : Pt → Array Value → Prop} {Post : Pt → Array Value → Option Value → Pt → Prop} {PostX : Pt → Array Value → Addr → Pt → Prop} (hK : vx_Back l R p e below s args y 3 W9 Pre Post PostX)
    {g : JFrame} (hg : g.method = m) (hsize : g.locals.size = c.maxLocals) {argsL rest : List Value} (hlen : ∀ sig, parseMethodDescriptor y.desc = some sig → argsL.length = sig.parameters.length)
    (hstack : g.stack = argsL.reverse ++ rest) (hW : 2 * g.monitorRoom + (rest.map fun v => v.category).sum ≤ W9) (hdg : decode c.code g.pc = .ok (.invokestatic index, 3))
    (hpre : ∀ vm₁, s.WarmedH vm₁ → Pre ⟨T.setVm vm₁, locs, cells, slots⟩ argsL.toArray) :
    (∃ (v : Option Value) (vm₁ : Vm) (B : Pt), s.WarmedH vm₁ ∧ Stand p l e R s m args below meth c B.U B.locs B.cells B.slots ∧ Post ⟨T.setVm vm₁, locs, cells, slots⟩ argsL.toArray v B ∧
      ∀ target, Steps p.tables e below (B.U.setTop { g with pc := g.pc + 3, stack := v.toList ++ rest }) target → Steps p.tables e below (T.setTop g) target) ∨
    (∃ (q : Addr) (vm₁ : Vm) (B : Pt), s.WarmedH vm₁ ∧ Stand p l e R s m args below meth c B.U B.locs B.cells B.slots ∧ PostX ⟨T.setVm vm₁, locs, cells, slots⟩ argsL.toArray q B ∧
      Steps p.tables e below (T.setTop g) ((B.U.setTop { g with stack := rest }).pushFrame (.throwing q))) := by
  obtain ⟨mk, hnamed⟩ := Cond.code_named hcode
  obtain ⟨methM, cM, hmethM, -, -, -, -, -, -, hsigM⟩ := Cond.code_spec hnamed hcode
  have hstatic : methM.isStatic = true := Cond.static_spec hnamed hmethM hstat
  obtain ⟨kP, hkP, -⟩ := className_of_methodNamed hnamed
  have hinitP : kP.init = .initialized := Cond.initialized_spec (findClass_of_methodNamed hnamed) hkP hinit
  obtain ⟨vm₁, X₁, hstep₁⟩ := X.invokestatic hexec hown hlink hnamed hmethM hstatic hkP hinitP hy (g := g) hg (argsL := argsL) (rest := rest) (hlen _ hsigM) hstack hdg
  rcases hK m meth c ⟨T.setVm vm₁, locs, cells, slots⟩ { g with stack := rest } (.invokestatic index) mk argsL.toArray X₁ hg hsize hdg hW (X₁.named hnamed) (hpre vm₁ X₁.warmed) with ⟨v, B, X', hpost, hsteps⟩ | ⟨q, B, X', hpost, hsteps⟩
  · exact Or.inl ⟨v, vm₁, B, X₁.warmed, X', hpost, fun target h => hstep₁ _ fun acts => by rw [doInvoke_state]; exact hsteps.trans h⟩
  · exact Or.inr ⟨q, vm₁, B, X₁.warmed, X', hpost, hstep₁ _ fun acts => by rw [doInvoke_state]; exact hsteps⟩
end Calls
theorem vx_cls {s : State} {T : State} {vm₁ : Vm} {E : String} {k : ClassId} (hW : s.WarmedH vm₁) (h : (T.setVm vm₁).vm.findClass E = some k) : s.vm.findClass E = some k := by
  have h1 : vm₁.findClass E = some k := h
  rw [hW.alike.findClass] at h1
  exact h1
/-- the method's frame g, with q thrown over it -/
def vx_W (p : Program) (l : Launch) (e : Env) (R : Room) (s : State) (m : MethodId) (args : Array Value) (below : List Frame) (meth : Method) (c : Code) (H : Heap) (locs : List Loc) (cells slots : Nat) (Q : State → Prop) (g : JFrame) (q : Addr) : Prop :=
  ∀ T : State, T.heap = H → Stand p l e R s m args below meth c T locs cells slots → ∃ t, Steps p.tables e below ((T.setTop g).pushFrame (.throwing q)) t ∧ Q t
def vx_Run (p : Program) (l : Launch) (e : Env) (R : Room) (s : State) (m : MethodId) (args : Array Value) (below : List Frame) (meth : Method) (c : Code) (H : Heap) (locs : List Loc) (cells slots mc ms : Nat) (g : JFrame) (rest : List Value) (Qa : State → Outcome → State → Prop) (XC : String → State → State → Prop) (free : Addr → Prop) : Prop :=
  ∀ T : State, T.heap = H → Stand p l e R s m args below meth c T locs cells slots →
    (∃ (v : Option Value) (st₀ t T' : State) (L : List Loc), st₀.heap = H ∧ Stand p l e R s m args below meth c T' (locs ++ L) (cells + mc) (slots + ms) ∧ (∀ q ∈ L, free q.base) ∧ T'.heap = t.heap ∧ T'.vm = t.vm ∧ Qa st₀ (.returned v) t ∧
      Goes p e below T g T' { g with pc := g.pc + 3, stack := v.toList ++ rest }) ∨
    (∃ (q : Addr) (st₀ t T' : State) (L : List Loc) (E : String) (ce : Cell), st₀.heap = H ∧ Stand p l e R s m args below meth c T' (locs ++ L) (cells + mc) (slots + ms) ∧ (∀ z ∈ L, free z.base) ∧ T'.heap = t.heap ∧ T'.vm = t.vm ∧ XC E st₀ t ∧ t.heap[q]? = some ce ∧ ce.vm = .none ∧ s.vm.findClass E = some ce.cls ∧
      Steps p.tables e below (T.setTop g) ((T'.setTop { g with stack := rest }).pushFrame (.throwing q)))
def vx_X {S : Type} (px : S → Prop) (B : String → S → State → Prop) (A : Nat → Prop) : String → State → State → Prop := fun E st t => ∃ u : S, px u ∧ B E u t ∧ va_F A st t
section Runs
variable {p : Program} {l : Launch} {e : Env} {R : Room} {s : State} {m : MethodId} {args : Array Value} {below : List Frame} {meth : Method} {c : Code} {H : Heap} {locs : List Loc} {cells slots : Nat}
variable {y : MethodName} {bytes cc : ByteArray} {maxL nL mc ms n index : Nat} {ret : Option FieldType} {ws : List Cond} {rm : Room} {Pc : Array Value → State → Prop} {Qc : Array Value → State → Outcome → State → Prop} {XC : String → State → State → Prop} {free : Addr → Prop} {Ts : List Cond} {own C : String} {b : Addr} {As rest : List Value} {g : JFrame}
theorem vx_callBack (cb : CallB R s args own index y bytes maxL ret ws rm mc ms n) (hM : vx_Met l y ws rm Pc Qc XC mc ms free) (hbl : FrameBlind Pc) : vx_Back l R p e below s args y 3 8 (PreOf R mc ms Pc) (PostOf Qc mc ms free) (vx_Post XC mc ms free) := by
  obtain ⟨hrc, hrs, hfr, hlo, hws, hcw, -, hini, -⟩ := cb
  exact vx_back (bytes := bytes) (maxL := maxL) (ret := ret) hM hbl hrc hrs hfr hlo hws hcw (fun a' U hW => word_at hW (Or.inl (by first | rfl | simp [Cond.onTables, Cond.keeps, Cond.steady])) hini)
theorem vx_runV (S : CallFix p m c cc nL s args Ts own) (hM : vx_Met l y ws rm Pc Qc XC mc ms free) (cw : CallW R s args own C index y bytes maxL ret ws rm mc ms n) (hp : PreV s H C b Pc As)
    (hg : g.method = m) (hn : As.length = n) (hsize : g.locals.size = nL) (hstack : g.stack = As.reverse ++ .ref b :: rest) (hW : 2 * g.monitorRoom + (rest.map fun v => v.category).sum ≤ 8) (hdg : decode cc g.pc = .ok (.invokevirtual index, 3)) (hf : cells + mc ≤ R.cells ∧ slots + ms ≤ R.slots) :
    vx_Run p l e R s m args below meth c H locs cells slots mc ms g rest (Qc (Value.ref b :: As).toArray) XC free := by
  have hK : vx_Back l R p e below s args y 3 8 (PreOf R mc ms Pc) (PostOf Qc mc ms free) (vx_Post XC mc ms free) := vx_callBack cw.1 hM hp.1
  obtain ⟨⟨-, -, -, -, -, -, hcode, -, hy, hlen, hl⟩, hin, hse⟩ := cw
  obtain ⟨hx, hb, hml, ho, -⟩ := S
  obtain ⟨-, ⟨cellB, hcB, hoB, hclB⟩, hPc⟩ := hp
  intro T hT X
  rcases vx_callV X hx (C := C) (bytes := bytes) (maxL := maxL) (ret := ret) ho hl hin hse hcode hy hK (by rw [hT]; exact hcB) hoB hclB hg (hsize.trans hml.symm) (argsL := As) (rest := rest) (fun sig h => hn.trans (hlen sig h)) hstack hW (by rw [hb]; exact hdg)
    (fun vm₁ hW₁ => ⟨hf.1, hf.2, hPc (T.setVm vm₁) hT hW₁⟩) with ⟨v, vm₁, ⟨U', l2, c2, s2⟩, hW₁, X', ⟨g', mk, t, L, e1, e2, hq, h1, hL, h2, h3⟩, st⟩ | ⟨q, vm₁, ⟨U', l2, c2, s2⟩, hW₁, X', ⟨g', mk, t, L, E, ce, e1, e2, hq, hce, hcv, hcl, h1, hL, h2, h3⟩, st⟩
  · dsimp only [Pt.U, Pt.locs, Pt.cells, Pt.slots] at X' e1 e2 h1 h2 h3 st
    subst h1; subst h2; subst h3
    exact Or.inl ⟨v, (T.setVm vm₁).calling g' mk (Value.ref b :: As).toArray, t, U', L, hT, X', hL, e1, e2, hq, st⟩
  · dsimp only [Pt.U, Pt.locs, Pt.cells, Pt.slots] at X' e1 e2 h1 h2 h3 st hcl
    subst h1; subst h2; subst h3
    exact Or.inr ⟨q, (T.setVm vm₁).calling g' mk (Value.ref b :: As).toArray, t, U', L, E, ce, hT, X', hL, e1, e2, hq, hce, hcv, vx_cls hW₁ hcl, st⟩
theorem vx_runS (S : CallFix p m c cc nL s args Ts own) (hM : vx_Met l y ws rm Pc Qc XC mc ms free) (cw : CallB R s args own index y bytes maxL ret ws rm mc ms n ∧ (Cond.static y).before args s = true) (hp : PreS s H Pc As)
    (hg : g.method = m) (hn : As.length = n) (hsize : g.locals.size = nL) (hstack : g.stack = As.reverse ++ rest) (hW : 2 * g.monitorRoom + (rest.map fun v => v.category).sum ≤ 8) (hdg : decode cc g.pc = .ok (.invokestatic index, 3)) (hf : cells + mc ≤ R.cells ∧ slots + ms ≤ R.slots) :
    vx_Run p l e R s m args below meth c H locs cells slots mc ms g rest (Qc As.toArray) XC free := by
  have hK : vx_Back l R p e below s args y 3 8 (PreOf R mc ms Pc) (PostOf Qc mc ms free) (vx_Post XC mc ms free) := vx_callBack cw.1 hM hp.1
  obtain ⟨⟨-, -, -, -, -, -, hcode, hini, hy, hlen, hl⟩, hstt⟩ := cw
  obtain ⟨hx, hb, hml, ho, -⟩ := S
  intro T hT X
  rcases vx_callS X hx (bytes := bytes) (maxL := maxL) (ret := ret) ho hl hstt hini hcode hy hK hg (hsize.trans hml.symm) (argsL := As) (rest := rest) (fun sig h => hn.trans (hlen sig h)) hstack hW (by rw [hb]; exact hdg)
    (fun vm₁ hW₁ => ⟨hf.1, hf.2, hp.2 (T.setVm vm₁) hT hW₁⟩) with ⟨v, vm₁, ⟨U', l2, c2, s2⟩, hW₁, X', ⟨g', mk, t, L, e1, e2, hq, h1, hL, h2, h3⟩, st⟩ | ⟨q, vm₁, ⟨U', l2, c2, s2⟩, hW₁, X', ⟨g', mk, t, L, E, ce, e1, e2, hq, hce, hcv, hcl, h1, hL, h2, h3⟩, st⟩
  · dsimp only [Pt.U, Pt.locs, Pt.cells, Pt.slots] at X' e1 e2 h1 h2 h3 st
    subst h1; subst h2; subst h3
    exact Or.inl ⟨v, (T.setVm vm₁).calling g' mk As.toArray, t, U', L, hT, X', hL, e1, e2, hq, st⟩
  · dsimp only [Pt.U, Pt.locs, Pt.cells, Pt.slots] at X' e1 e2 h1 h2 h3 st hcl
    subst h1; subst h2; subst h3
    exact Or.inr ⟨q, (T.setVm vm₁).calling g' mk As.toArray, t, U', L, E, ce, hT, X', hL, e1, e2, hq, hce, hcv, vx_cls hW₁ hcl, st⟩
end Runs
section Rows
variable {p : Program} {l : Launch} {e : Env} {R : Room} {s : State} {m : MethodId} {args : Array Value} {below : List Frame} {meth : Method} {c : Code} {H : Heap} {locs : List Loc} {cells slots : Nat} {Q : State → Prop}
variable {mc ms : Nat} {free : Addr → Prop} {A0 A1 : Nat → Prop} {H0 : Heap} {a : Array Value} {pc : Nat} {ls : Array Slot} {st0 rest : List Value}
theorem vx_keep {st₀ t T' : State} {L : List Loc} (h0 : st₀.heap = H) (e1 : T'.heap = t.heap) (hS : va_S A0 H0 H locs) (hA : ∀ q, q < H.size → A1 q → A0 q) (hf : ∀ q, free q → A0 q) (hL : ∀ q ∈ L, free q.base) (hF : va_F A1 st₀ t) :
    H.size ≤ T'.heap.size ∧ (∀ q : Nat, q < H.size → ¬ A1 q → T'.heap[q]? = H[q]?) ∧ va_S A0 H0 T'.heap (locs ++ L) := by
  obtain ⟨hz, hk⟩ := hF
  rw [h0] at hz hk
  exact ⟨by rw [e1]; exact hz, fun q h1 h2 => by rw [e1]; exact hk q h1 h2,
    ⟨Nat.le_trans hS.1 (by rw [e1]; exact hz), fun q h1 h2 => by rw [e1, hk q (Nat.lt_of_lt_of_le h1 hS.1) (fun z => h2 (hA q (Nat.lt_of_lt_of_le h1 hS.1) z))]; exact hS.2.1 q h1 h2, fun q hq => by
      rcases List.mem_append.mp hq with h | h
      · exact hS.2.2 q h
      · exact hf _ (hL q h)⟩⟩
theorem vx_calli {S SX : Type} {post : Int32 → S → Prop} {px : SX → Prop} {B : S → State → Prop} {BX : String → SX → State → Prop} {AX : Nat → Prop} (hr : vx_Run p l e R s m args below meth c H locs cells slots mc ms (F0 m pc ls st0) rest (va_Qi post B A1 a) (vx_X px BX AX) free) (hS : va_S A0 H0 H locs) (hA : ∀ q, q < H.size → A1 q → A0 q) (hf : ∀ q, free q → A0 q) (hAX : ∀ q, q < H.size → AX q → A0 q)
    (kx : ∀ (E : String) (ce : Cell) (q9 : Addr) (u : SX) (t : State) (H1 : Heap) (locs1 : List Loc), t.heap = H1 → s.vm.Alike t.vm → px u → BX E u t → H.size ≤ H1.size → (∀ q : Nat, q < H.size → ¬ AX q → H1[q]? = H[q]?) → va_S A0 H0 H1 locs1 → H1[q9]? = some ce → ce.vm = .none → s.vm.findClass E = some ce.cls → vx_W p l e R s m args below meth c H1 locs1 (cells + mc) (slots + ms) Q (F0 m pc ls rest) q9)
    (kk : ∀ (r : Int32) (u : S) (t : State) (H1 : Heap) (locs1 : List Loc), t.heap = H1 → s.vm.Alike t.vm → post r u → B u t → H.size ≤ H1.size → (∀ q : Nat, q < H.size → ¬ A1 q → H1[q]? = H[q]?) → va_S A0 H0 H1 locs1 → W p l e R s m args below meth c H1 locs1 (cells + mc) (slots + ms) Q (F0 m (pc + 3) ls (.int r :: rest))) : W p l e R s m args below meth c H locs cells slots Q (F0 m pc ls st0) := by
  intro T hT X
  rcases hr T hT X with ⟨v, st₀, t, T', L, h0, X', hL, e1, e2, ⟨⟨r, u, hv, hp, hb⟩, hF⟩, st⟩ | ⟨q, st₀, t, T', L, E, ce, h0, X', hL, e1, e2, ⟨u, hp, hb, hF⟩, hce, hcv, hcl, st⟩
  · cases hv
    obtain ⟨k1, k2, k3⟩ := vx_keep h0 e1 hS hA hf hL hF
    obtain ⟨t2, a1, b1⟩ := kk r u t T'.heap (locs ++ L) e1.symm (by rw [← e2]; exact X'.warmed.alike) hp hb k1 k2 k3 T' rfl X'
    exact ⟨t2, st t2 a1, b1⟩
  · obtain ⟨k1, k2, k3⟩ := vx_keep h0 e1 hS hAX hf hL hF
    obtain ⟨t2, a1, b1⟩ := kx E ce q u t T'.heap (locs ++ L) e1.symm (by rw [← e2]; exact X'.warmed.alike) hp hb k1 k2 k3 (by rw [e1]; exact hce) hcv hcl T' rfl X'
    exact ⟨t2, st.trans a1, b1⟩
theorem vx_calll {S SX : Type} {post : Int64 → S → Prop} {px : SX → Prop} {B : S → State → Prop} {BX : String → SX → State → Prop} {AX : Nat → Prop} (hr : vx_Run p l e R s m args below meth c H locs cells slots mc ms (F0 m pc ls st0) rest (va_Ql post B A1 a) (vx_X px BX AX) free) (hS : va_S A0 H0 H locs) (hA : ∀ q, q < H.size → A1 q → A0 q) (hf : ∀ q, free q → A0 q) (hAX : ∀ q, q < H.size → AX q → A0 q)
    (kx : ∀ (E : String) (ce : Cell) (q9 : Addr) (u : SX) (t : State) (H1 : Heap) (locs1 : List Loc), t.heap = H1 → s.vm.Alike t.vm → px u → BX E u t → H.size ≤ H1.size → (∀ q : Nat, q < H.size → ¬ AX q → H1[q]? = H[q]?) → va_S A0 H0 H1 locs1 → H1[q9]? = some ce → ce.vm = .none → s.vm.findClass E = some ce.cls → vx_W p l e R s m args below meth c H1 locs1 (cells + mc) (slots + ms) Q (F0 m pc ls rest) q9)
    (kk : ∀ (r : Int64) (u : S) (t : State) (H1 : Heap) (locs1 : List Loc), t.heap = H1 → s.vm.Alike t.vm → post r u → B u t → H.size ≤ H1.size → (∀ q : Nat, q < H.size → ¬ A1 q → H1[q]? = H[q]?) → va_S A0 H0 H1 locs1 → W p l e R s m args below meth c H1 locs1 (cells + mc) (slots + ms) Q (F0 m (pc + 3) ls (.long r :: rest))) : W p l e R s m args below meth c H locs cells slots Q (F0 m pc ls st0) := by
  intro T hT X
  rcases hr T hT X with ⟨v, st₀, t, T', L, h0, X', hL, e1, e2, ⟨⟨r, u, hv, hp, hb⟩, hF⟩, st⟩ | ⟨q, st₀, t, T', L, E, ce, h0, X', hL, e1, e2, ⟨u, hp, hb, hF⟩, hce, hcv, hcl, st⟩
  · cases hv
    obtain ⟨k1, k2, k3⟩ := vx_keep h0 e1 hS hA hf hL hF
    obtain ⟨t2, a1, b1⟩ := kk r u t T'.heap (locs ++ L) e1.symm (by rw [← e2]; exact X'.warmed.alike) hp hb k1 k2 k3 T' rfl X'
    exact ⟨t2, st t2 a1, b1⟩
  · obtain ⟨k1, k2, k3⟩ := vx_keep h0 e1 hS hAX hf hL hF
    obtain ⟨t2, a1, b1⟩ := kx E ce q u t T'.heap (locs ++ L) e1.symm (by rw [← e2]; exact X'.warmed.alike) hp hb k1 k2 k3 (by rw [e1]; exact hce) hcv hcl T' rfl X'
    exact ⟨t2, st.trans a1, b1⟩
theorem vx_callf {S SX : Type} {post : UInt32 → S → Prop} {px : SX → Prop} {B : S → State → Prop} {BX : String → SX → State → Prop} {AX : Nat → Prop} (hr : vx_Run p l e R s m args below meth c H locs cells slots mc ms (F0 m pc ls st0) rest (va_Qf post B A1 a) (vx_X px BX AX) free) (hS : va_S A0 H0 H locs) (hA : ∀ q, q < H.size → A1 q → A0 q) (hf : ∀ q, free q → A0 q) (hAX : ∀ q, q < H.size → AX q → A0 q)
    (kx : ∀ (E : String) (ce : Cell) (q9 : Addr) (u : SX) (t : State) (H1 : Heap) (locs1 : List Loc), t.heap = H1 → s.vm.Alike t.vm → px u → BX E u t → H.size ≤ H1.size → (∀ q : Nat, q < H.size → ¬ AX q → H1[q]? = H[q]?) → va_S A0 H0 H1 locs1 → H1[q9]? = some ce → ce.vm = .none → s.vm.findClass E = some ce.cls → vx_W p l e R s m args below meth c H1 locs1 (cells + mc) (slots + ms) Q (F0 m pc ls rest) q9)
    (kk : ∀ (r : UInt32) (u : S) (t : State) (H1 : Heap) (locs1 : List Loc), t.heap = H1 → s.vm.Alike t.vm → post r u → B u t → H.size ≤ H1.size → (∀ q : Nat, q < H.size → ¬ A1 q → H1[q]? = H[q]?) → va_S A0 H0 H1 locs1 → W p l e R s m args below meth c H1 locs1 (cells + mc) (slots + ms) Q (F0 m (pc + 3) ls (.float r :: rest))) : W p l e R s m args below meth c H locs cells slots Q (F0 m pc ls st0) := by
  intro T hT X
  rcases hr T hT X with ⟨v, st₀, t, T', L, h0, X', hL, e1, e2, ⟨⟨r, u, hv, hp, hb⟩, hF⟩, st⟩ | ⟨q, st₀, t, T', L, E, ce, h0, X', hL, e1, e2, ⟨u, hp, hb, hF⟩, hce, hcv, hcl, st⟩
  · cases hv
    obtain ⟨k1, k2, k3⟩ := vx_keep h0 e1 hS hA hf hL hF
    obtain ⟨t2, a1, b1⟩ := kk r u t T'.heap (locs ++ L) e1.symm (by rw [← e2]; exact X'.warmed.alike) hp hb k1 k2 k3 T' rfl X'
    exact ⟨t2, st t2 a1, b1⟩
  · obtain ⟨k1, k2, k3⟩ := vx_keep h0 e1 hS hAX hf hL hF
    obtain ⟨t2, a1, b1⟩ := kx E ce q u t T'.heap (locs ++ L) e1.symm (by rw [← e2]; exact X'.warmed.alike) hp hb k1 k2 k3 (by rw [e1]; exact hce) hcv hcl T' rfl X'
    exact ⟨t2, st.trans a1, b1⟩
theorem vx_calld {S SX : Type} {post : UInt64 → S → Prop} {px : SX → Prop} {B : S → State → Prop} {BX : String → SX → State → Prop} {AX : Nat → Prop} (hr : vx_Run p l e R s m args below meth c H locs cells slots mc ms (F0 m pc ls st0) rest (va_Qd post B A1 a) (vx_X px BX AX) free) (hS : va_S A0 H0 H locs) (hA : ∀ q, q < H.size → A1 q → A0 q) (hf : ∀ q, free q → A0 q) (hAX : ∀ q, q < H.size → AX q → A0 q)
    (kx : ∀ (E : String) (ce : Cell) (q9 : Addr) (u : SX) (t : State) (H1 : Heap) (locs1 : List Loc), t.heap = H1 → s.vm.Alike t.vm → px u → BX E u t → H.size ≤ H1.size → (∀ q : Nat, q < H.size → ¬ AX q → H1[q]? = H[q]?) → va_S A0 H0 H1 locs1 → H1[q9]? = some ce → ce.vm = .none → s.vm.findClass E = some ce.cls → vx_W p l e R s m args below meth c H1 locs1 (cells + mc) (slots + ms) Q (F0 m pc ls rest) q9)
    (kk : ∀ (r : UInt64) (u : S) (t : State) (H1 : Heap) (locs1 : List Loc), t.heap = H1 → s.vm.Alike t.vm → post r u → B u t → H.size ≤ H1.size → (∀ q : Nat, q < H.size → ¬ A1 q → H1[q]? = H[q]?) → va_S A0 H0 H1 locs1 → W p l e R s m args below meth c H1 locs1 (cells + mc) (slots + ms) Q (F0 m (pc + 3) ls (.double r :: rest))) : W p l e R s m args below meth c H locs cells slots Q (F0 m pc ls st0) := by
  intro T hT X
  rcases hr T hT X with ⟨v, st₀, t, T', L, h0, X', hL, e1, e2, ⟨⟨r, u, hv, hp, hb⟩, hF⟩, st⟩ | ⟨q, st₀, t, T', L, E, ce, h0, X', hL, e1, e2, ⟨u, hp, hb, hF⟩, hce, hcv, hcl, st⟩
  · cases hv
    obtain ⟨k1, k2, k3⟩ := vx_keep h0 e1 hS hA hf hL hF
    obtain ⟨t2, a1, b1⟩ := kk r u t T'.heap (locs ++ L) e1.symm (by rw [← e2]; exact X'.warmed.alike) hp hb k1 k2 k3 T' rfl X'
    exact ⟨t2, st t2 a1, b1⟩
  · obtain ⟨k1, k2, k3⟩ := vx_keep h0 e1 hS hAX hf hL hF
    obtain ⟨t2, a1, b1⟩ := kx E ce q u t T'.heap (locs ++ L) e1.symm (by rw [← e2]; exact X'.warmed.alike) hp hb k1 k2 k3 (by rw [e1]; exact hce) hcv hcl T' rfl X'
    exact ⟨t2, st.trans a1, b1⟩
theorem vx_callv {S SX : Type} {post : S → Prop} {px : SX → Prop} {B : S → State → Prop} {BX : String → SX → State → Prop} {AX : Nat → Prop} (hr : vx_Run p l e R s m args below meth c H locs cells slots mc ms (F0 m pc ls st0) rest (va_Qv post B A1 a) (vx_X px BX AX) free) (hS : va_S A0 H0 H locs) (hA : ∀ q, q < H.size → A1 q → A0 q) (hf : ∀ q, free q → A0 q) (hAX : ∀ q, q < H.size → AX q → A0 q)
    (kx : ∀ (E : String) (ce : Cell) (q9 : Addr) (u : SX) (t : State) (H1 : Heap) (locs1 : List Loc), t.heap = H1 → s.vm.Alike t.vm → px u → BX E u t → H.size ≤ H1.size → (∀ q : Nat, q < H.size → ¬ AX q → H1[q]? = H[q]?) → va_S A0 H0 H1 locs1 → H1[q9]? = some ce → ce.vm = .none → s.vm.findClass E = some ce.cls → vx_W p l e R s m args below meth c H1 locs1 (cells + mc) (slots + ms) Q (F0 m pc ls rest) q9)
    (kk : ∀ (u : S) (t : State) (H1 : Heap) (locs1 : List Loc), t.heap = H1 → s.vm.Alike t.vm → post u → B u t → H.size ≤ H1.size → (∀ q : Nat, q < H.size → ¬ A1 q → H1[q]? = H[q]?) → va_S A0 H0 H1 locs1 → W p l e R s m args below meth c H1 locs1 (cells + mc) (slots + ms) Q (F0 m (pc + 3) ls (rest))) : W p l e R s m args below meth c H locs cells slots Q (F0 m pc ls st0) := by
  intro T hT X
  rcases hr T hT X with ⟨v, st₀, t, T', L, h0, X', hL, e1, e2, ⟨⟨u, hv, hp, hb⟩, hF⟩, st⟩ | ⟨q, st₀, t, T', L, E, ce, h0, X', hL, e1, e2, ⟨u, hp, hb, hF⟩, hce, hcv, hcl, st⟩
  · cases hv
    obtain ⟨k1, k2, k3⟩ := vx_keep h0 e1 hS hA hf hL hF
    obtain ⟨t2, a1, b1⟩ := kk u t T'.heap (locs ++ L) e1.symm (by rw [← e2]; exact X'.warmed.alike) hp hb k1 k2 k3 T' rfl X'
    exact ⟨t2, st t2 a1, b1⟩
  · obtain ⟨k1, k2, k3⟩ := vx_keep h0 e1 hS hAX hf hL hF
    obtain ⟨t2, a1, b1⟩ := kx E ce q u t T'.heap (locs ++ L) e1.symm (by rw [← e2]; exact X'.warmed.alike) hp hb k1 k2 k3 (by rw [e1]; exact hce) hcv hcl T' rfl X'
    exact ⟨t2, st.trans a1, b1⟩
/-- caught by the row x of this method's table; the rows ahead don't take it -/
theorem vx_catch {own name : String} {E : String} {ce : Cell} {q : Addr} (hown : s.vm.findClass own = some m.cls) (pre : List ExceptionTableEntry) (x : ExceptionTableEntry) (suf : List ExceptionTableEntry) (hsplit : c.exceptionTable.toList = pre ++ x :: suf)
    (hpass : ∀ z ∈ pre, covers z pc = false ∨ (z.catchType ≠ 0 ∧ ∃ nm : String, (Cond.classLink own z.catchType nm).before args s = true ∧ va_Nc E nm s)) (hx : covers x pc = true) (h0 : x.catchType ≠ 0)
    (hlink : (Cond.classLink own x.catchType name).before args s = true) (hcast : (Cond.castable E name).before args s = true) (hcell : H[q]? = some ce) (hv : ce.vm = .none) (hcl : s.vm.findClass E = some ce.cls)
    (kk : W p l e R s m args below meth c H locs cells slots Q (F0 m x.handlerPc ls [.ref q])) : vx_W p l e R s m args below meth c H locs cells slots Q (F0 m pc ls rest) q := by
  intro T hT X
  have hpl : e.platform.magicAccessors = ({} : Platform).magicAccessors := by rw [X.admits.platform]
  obtain ⟨c3, c4, hc3, hc4, hasg⟩ := Cond.castable_spec hcast
  cases Option.some.inj (hc3.symm.trans hcl)
  obtain ⟨c5, hc5, hcl5⟩ := Cond.classLink_spec hown hlink e.platform hpl
  cases Option.some.inj (hc4.symm.trans hc5)
  obtain ⟨vm', X', st⟩ := X.thenCaughtThrough q (g := F0 m pc ls rest) rfl (Steps.refl _) (by rw [hT]; exact hcell) (by rw [hv]; rfl) (by obtain ⟨k9, h9, -⟩ := Vm.findClass_spec hcl; exact ⟨k9, h9⟩) pre x suf hsplit
    (fun z hz => by
      rcases hpass z hz with h | ⟨hz0, nm, hl1, hn1⟩
      · exact Or.inl h
      · obtain ⟨c6, hc6, hcl6⟩ := Cond.classLink_spec hown hl1 e.platform hpl
        obtain ⟨a8, b8, h1, h2, h3⟩ := hn1
        cases Option.some.inj (h1.symm.trans hcl)
        cases Option.some.inj (h2.symm.trans hc6)
        exact Or.inr ⟨hz0, _, hcl6, h3⟩) hx (Or.inr ⟨h0, c4, hcl5, hasg⟩)
  obtain ⟨t, a1, b1⟩ := kk (T.setVm vm') hT X'
  exact ⟨t, st.trans a1, b1⟩
end Rows
section Ends
variable {p : Program} {l : Launch} {e : Env} {R : Room} {s : State} {m : MethodId} {args : Array Value} {below : List Frame} {meth : Method} {c : Code} {H : Heap} {locs : List Loc} {cells slots : Nat} {Q : State → Prop}
variable {mc ms : Nat} {free : Addr → Prop} {A0 A1 : Nat → Prop} {H0 : Heap} {a : Array Value} {ls : Array Slot} {st0 rest : List Value}
variable {Qc : Array Value → State → Outcome → State → Prop} {XC : String → State → State → Prop}
/-- what a body that may throw owes at its end -/
def vx_MQ (below : List Frame) (Qc : Array Value → State → Outcome → State → Prop) (XC : String → State → State → Prop) (a : Array Value) (s : State) (mc ms : Nat) (free : Addr → Prop) : State → Prop := fun t =>
  ∃ o, t.status = .running ∧ Ended t below o ∧ vx_Q Qc XC mc ms free a s o t
theorem vx_ret {g : JFrame} {mc ms : Nat} (k : W p l e R s m args below meth c H locs cells slots (MQ below Qc args s mc ms free) g) : W p l e R s m args below meth c H locs cells slots (vx_MQ below Qc XC args s mc ms free) g := by
  intro T hT X
  obtain ⟨t, a1, o, b1, b2, b3, b4⟩ := k T hT X
  exact ⟨t, a1, o, b1, b2, Or.inl ⟨b3, b4⟩⟩
/-- not caught here: it goes on to the caller -/
theorem vx_widen {g : JFrame} {q : Addr} {k n : Nat} (h1 : cells ≤ k) (h2 : slots ≤ n) (kk : vx_W p l e R s m args below meth c H locs k n Q g q) : vx_W p l e R s m args below meth c H locs cells slots Q g q := fun T hT X => kk T hT (stand_widen X h1 h2)
theorem vx_out {pc : Nat} {E : String} {ce : Cell} {q : Addr} {mc ms : Nat} (hout : ∀ x ∈ c.exceptionTable.toList, covers x pc = false) (hlocks : meth.locks = false) (hcell : H[q]? = some ce) (hv : ce.vm = .none) (hcl : s.vm.findClass E = some ce.cls)
    (hx : ∀ t : State, t.heap = H → s.vm.Alike t.vm → XC E s t) (hf : ∀ z ∈ locs, free z.base) (hc : cells ≤ mc) (hs : slots ≤ ms) :
    vx_W p l e R s m args below meth c H locs cells slots (vx_MQ below Qc XC args s mc ms free) (F0 m pc ls rest) q := by
  intro T hT X
  obtain ⟨st1, hrun, hend, hW, hsm⟩ := X.leaveThrown q (g := F0 m pc ls rest) rfl rfl rfl hout hlocks
  have hcell9 : (T.setFrames (.throwing q :: below)).heap[q]? = some ce := by
    show T.heap[q]? = some ce
    rw [hT]; exact hcell
  exact ⟨_, st1, .threw q, hrun, hend, Or.inr ⟨q, rfl, E, ce, locs, hx _ hT hW.alike, hcell9, hv, hcl, hW, hsm.mono hc hs, hf⟩⟩
theorem vx_frame {U : State} {k n : Nat} (h : s.sameButNew ({ U with vm := s.vm } : State) locs k n) : s.heap.size ≤ U.heap.size ∧ ∀ q : Nat, q < s.heap.size → (∀ z ∈ locs, z.base ≠ q) → U.heap[q]? = s.heap[q]? := by
  obtain ⟨-, h2, -, -, -, h6⟩ := h
  refine ⟨h2, fun q hq hz => ?_⟩
  obtain ⟨c9, e1, e2, e3, e4⟩ := h6 q _ (Array.getElem?_eq_getElem hq)
  have hs : c9.slots = (s.heap[q]).slots := Array.ext_getElem? fun i => e4 i fun hm => hz _ hm rfl
  have h9 : c9 = s.heap[q] := by
    rw [hs] at e2
    exact e2
  have e5 : U.heap[q]? = some c9 := e1
  rw [e5, h9, Array.getElem?_eq_getElem hq]
/-- the words of a throw but the four that speak of the heap -/
def vx_no (w : Cond) : Bool := decide (w ≠ .isRef (.static Bundle.tN "UNASSIGNED_STACK" Bundle.steD)) && decide (w ≠ .isRef (.static Bundle.tN "SUPPRESSED_SENTINEL" Bundle.listD)) && decide (w ≠ .laysStatic Bundle.tN "UNASSIGNED_STACK" Bundle.steD) && decide (w ≠ .laysStatic Bundle.tN "SUPPRESSED_SENTINEL" Bundle.listD)
def vx_at0 (own : String) (ic : Nat) (X : String) (names : List String) : List Cond := (Bundle.ownAtoms0 own ic X names).filter vx_no
def vx_atS (own : String) (ic : Nat) (X : String) (names : List String) : List Cond := (Bundle.ownAtoms own ic X names).filter vx_no
/-- a word that the tables alone decide, or a good one -/
def vx_ot (w : Cond) : Bool := w.onTables || goodWord w
theorem vx_ot_at {args a' : Array Value} {s U : State} {w : Cond} (hW : s.WarmedH U.vm) (hvm : s.vm = U.vm) (hg : vx_ot w = true) (h : w.before args s = true) : w.before a' U = true := by
  simp only [vx_ot, Bool.or_eq_true] at hg
  rcases hg with hg | hg
  · exact va_tabs hg hvm h
  · exact word_at hW (good_of_word hg) h
/-- a list's words: the good ones out of the method's own list, the others by premises of their own -/
theorem vx_hat {args : Array Value} {s : State} {L B : List Cond} (h1 : ∀ w ∈ L.filter goodWord, w.before args s = true) (h2 : ∀ w ∈ L.filter (fun w => !goodWord w), w ∈ B) (h3 : ∀ w ∈ B, w.before args s = true) : ∀ w ∈ L, w.before args s = true := by
  intro w hw
  by_cases g : goodWord w = true
  · exact h1 w (List.mem_filter.mpr ⟨hw, g⟩)
  · refine h3 w (h2 w (List.mem_filter.mpr ⟨hw, ?_⟩))
    show (!goodWord w) = true
    cases hgw : goodWord w
    · rfl
    · exact absurd hgw g
theorem vx_c {args : Array Value} {s : State} {w : Cond} {B : List Cond} (h : w.before args s = true) (t : ∀ w ∈ B, w.before args s = true) : ∀ w' ∈ w :: B, w'.before args s = true := fun w' h' => (List.mem_cons.mp h').elim (fun e => by rw [e]; exact h) (t w')
theorem vx_n {args : Array Value} {s : State} : ∀ w ∈ ([] : List Cond), w.before args s = true := fun _ h => nomatch h
theorem vx_own {args : Array Value} {s : State} {L : List Cond} (h1 : ∀ w ∈ L.filter vx_no, w.before args s = true)
    (hU : (Cond.isRef (.static Bundle.tN "UNASSIGNED_STACK" Bundle.steD)).before args s = true) (hN : (Cond.isRef (.static Bundle.tN "SUPPRESSED_SENTINEL" Bundle.listD)).before args s = true)
    (lU : (Cond.laysStatic Bundle.tN "UNASSIGNED_STACK" Bundle.steD).before args s = true) (lN : (Cond.laysStatic Bundle.tN "SUPPRESSED_SENTINEL" Bundle.listD).before args s = true) : ∀ w ∈ L, w.before args s = true := by
  intro w hw
  by_cases e1 : w = .isRef (.static Bundle.tN "UNASSIGNED_STACK" Bundle.steD)
  · rw [e1]; exact hU
  · by_cases e2 : w = .isRef (.static Bundle.tN "SUPPRESSED_SENTINEL" Bundle.listD)
    · rw [e2]; exact hN
    · by_cases e3 : w = .laysStatic Bundle.tN "UNASSIGNED_STACK" Bundle.steD
      · rw [e3]; exact lU
      · by_cases e4 : w = .laysStatic Bundle.tN "SUPPRESSED_SENTINEL" Bundle.listD
        · rw [e4]; exact lN
        · exact h1 w (List.mem_filter.mpr ⟨hw, by unfold vx_no; rw [decide_eq_true e1, decide_eq_true e2, decide_eq_true e3, decide_eq_true e4]; rfl⟩)
/-- where a static field lies, its class's statics cell in H -/
def vx_L (C n d : String) (A : Nat → Prop) (U : State) (H : Heap) : Prop := ∃ (c : ClassId) (k : Class) (i : Nat) (f : Field) (a : Nat) (cell : Cell), U.vm.findClass C = some c ∧ U.fieldFound? C n d = some (c, k, i, f) ∧ f.isStatic = true ∧ k.statics = some a ∧ H[a]? = some cell ∧ cell.vm.isStatics = true ∧ cell.cls = c ∧ f.slot < cell.slots.size ∧ k.staticTypes[f.slot]? = some f.type ∧ ¬ A a
theorem vx_L.moved {C n d : String} {A : Nat → Prop} {u U : State} {H : Heap} (hvm : u.vm.Alike U.vm) (h : vx_L C n d A u H) : vx_L C n d A U H := by
  obtain ⟨c, k, i, f, a, cell, h1, h2, h3, h4, h5, h6, h7, h8, h9, h10⟩ := h
  obtain ⟨k', hi', he⟩ := State.fieldFound?_setVm hvm h2
  exact ⟨c, k', i, f, a, cell, by rw [hvm.findClass]; exact h1, hi', h3, by rw [he]; exact h4, h5, h6, h7, h8, by rw [he]; exact h9, h10⟩
theorem vx_L.kept {C n d : String} {A : Nat → Prop} {U : State} {H H1 : Heap} (h : vx_L C n d A U H) (hq : ∀ a : Nat, a < H.size → ¬ A a → H1[a]? = H[a]?) : vx_L C n d A U H1 := by
  obtain ⟨c, k, i, f, a, cell, h1, h2, h3, h4, h5, h6, h7, h8, h9, h10⟩ := h
  exact ⟨c, k, i, f, a, cell, h1, h2, h3, h4, by rw [hq a (Array.getElem?_eq_some_iff.mp h5).1 h10]; exact h5, h6, h7, h8, h9, h10⟩
theorem vx_L.narrow {C n d : String} {A B : Nat → Prop} {U : State} {H : Heap} (h : vx_L C n d A U H) (hAB : ∀ q, B q → A q) : vx_L C n d B U H := by
  obtain ⟨c, k, i, f, a, cell, h1, h2, h3, h4, h5, h6, h7, h8, h9, h10⟩ := h
  exact ⟨c, k, i, f, a, cell, h1, h2, h3, h4, h5, h6, h7, h8, h9, fun z => h10 (hAB _ z)⟩
theorem vx_L.word {C n d : String} {A : Nat → Prop} {s : State} {args : Array Value} (h : vx_L C n d A s s.heap) : (Cond.laysStatic C n d).before args s = true := by
  obtain ⟨c, k, i, f, a, cell, h1, h2, h3, h4, h5, h6, h7, h8, h9, -⟩ := h
  show (Cond.laysStatic C n d).holds args s none s [] = true
  exact Cond.laysStatic_of h1 h2 h3 h4 h5 h6 h7 h8 h9
/-- .. and what it holds: null or some reference -/
def vx_Zq (C n d : String) (A : Nat → Prop) (U : State) (H : Heap) : Prop := va_Zq C n d A U H ∧ vx_L C n d A U H
theorem vx_Zq.moved {C n d : String} {A : Nat → Prop} {u U : State} {H : Heap} (hvm : u.vm.Alike U.vm) (h : vx_Zq C n d A u H) : vx_Zq C n d A U H := ⟨va_Zq.moved hvm h.1, vx_L.moved hvm h.2⟩
theorem vx_Zq.kept {C n d : String} {A : Nat → Prop} {U : State} {H H1 : Heap} (h : vx_Zq C n d A U H) (hq : ∀ a : Nat, a < H.size → ¬ A a → H1[a]? = H[a]?) : vx_Zq C n d A U H1 := ⟨va_Zq.kept h.1 hq, vx_L.kept h.2 hq⟩
theorem vx_Zq.narrow {C n d : String} {A B : Nat → Prop} {U : State} {H : Heap} (h : vx_Zq C n d A U H) (hAB : ∀ q, B q → A q) : vx_Zq C n d B U H := ⟨va_Zq.narrow h.1 hAB, vx_L.narrow h.2 hAB⟩
theorem vx_Zqof {args : Array Value} {s : State} {C n d : String} {A : Nat → Prop} (hl : (Cond.laysStatic C n d).before args s = true) (hini : (Cond.initialized C).before args s = true) (h : (Cond.isRef (.static C n d)).before args s = true) (hA : ∀ a : Nat, a < s.heap.size → ¬ A a) : vx_Zq C n d A s s.heap := by
  refine ⟨va_Zqof hl hini h hA, ?_⟩
  obtain ⟨c, k, i, f, a, cell, h1, h2, h3, h4, h5, h6, h7, h8, h9⟩ := Cond.laysStatic_spec hl
  exact ⟨c, k, i, f, a, cell, h1, h2, h3, h4, h5, h6, h7, h8, h9, hA a (Array.getElem?_eq_some_iff.mp h5).1⟩
theorem vx_isRef {C n d : String} {v : Value} {A : Nat → Prop} {s : State} {args : Array Value} (h : va_Z C n d v A s s.heap) (hv : v.isRef = true) : (Cond.isRef (.static C n d)).before args s = true := by
  obtain ⟨cf, kf, fi, f, a, cell, h1, h2, h3, h4, h5, h6, h7, -⟩ := h
  have he : (Term.static C n d).eval args s none [] s = some v := by
    simp [Term.eval, State.fieldNamed?, h1, h2, h4, h5, h6, h7]
  simp only [Cond.before, Cond.holds, Cond.value, he]
  cases v <;> simp_all [Value.isRef]
theorem vx_isRefq {C n d : String} {A : Nat → Prop} {s : State} {args : Array Value} (h : va_Zq C n d A s s.heap) : (Cond.isRef (.static C n d)).before args s = true := by
  rcases h with h | ⟨t, h⟩
  · exact vx_isRef h rfl
  · exact vx_isRef h rfl
/-- the same frame, seen from here: as if the method were called anew in this heap -/
theorem vx_rebase {T : State} (X : Stand p l e R s m args below meth c T locs cells slots) {R' : Room} (hf : R'.frames ≤ R.frames) (hl : R'.locals ≤ R.locals) (hc : cells + R'.cells ≤ R.cells) (hs : slots + R'.slots ≤ R.slots) :
    Stand p l e R' ((T.setVm s.vm).setFrames (.invoking m args :: below)) m args below meth c T [] 0 0 := by
  have htop : (T.setVm s.vm).topJava?.isSome := X.here.top
  have hF : ((T.setVm s.vm).setFrames (.invoking m args :: below)).frames = .invoking m args :: below := State.frames_setFrames _ (State.cur_lt_of_top htop)
  obtain ⟨g₀, hg0⟩ := Option.isSome_iff_exists.mp htop
  obtain ⟨r, hr⟩ := State.topJava?_eq_some.mp hg0
  have hl9 : e.platform.stackLimits (T.setVm s.vm).me = e.platform.stackLimits s.me := X.limits
  have hb9 : (T.setVm s.vm).me.stackBytes = s.me.stackBytes := X.bytes
  refine ⟨X.admits, X.cas, X.clock, hF, ?_, X.hears, X.method, X.code, X.here, X.tail, X.warmed, ?_, ?_, ?_⟩
  · have h := X.room
    have hU : ((T.setVm s.vm).setFrames (.invoking m args :: below)).localsInUse = s.localsInUse := by
      rw [State.localsInUse_invoking hF (meth := meth) (c := c) X.method X.code, State.localsInUse_invoking X.frames X.method X.code]
    simp only [State.hasRoom, Bool.and_eq_true, decide_eq_true_eq] at h ⊢
    obtain ⟨⟨⟨⟨h1, h2, h3, h4, h5, h6⟩, h7⟩, h8⟩, h9⟩ := h
    rw [X.frames, List.length_cons] at h2 h3
    have q1 := X.heapSize
    have q2 := X.used
    simp only [hF, hU, List.length_cons, State.stackLimits_setFrames, State.stackBytes_setFrames, hl9, hb9]
    refine ⟨⟨⟨⟨by omega, by omega, by omega, by omega, by omega, h6⟩, ?_⟩, ?_⟩, X.book⟩
    · show T.heap.size + R'.cells ≤ e.platform.maxCells
      omega
    · show T.slotsUsed + R'.slots ≤ e.platform.maxSlots
      omega
  · rw [State.stackLimits_setFrames]; rfl
  · rw [State.stackBytes_setFrames]; rfl
  · refine ⟨?_, Nat.le_refl _, Nat.le_refl _, ?_, ?_, fun a c9 h9 => ⟨c9, h9, rfl, rfl, fun _ _ => rfl⟩⟩
    · obtain ⟨t, ht, -⟩ := State.frames_cons hr
      show T.setVm s.vm = { ((T.setVm s.vm).setFrames (.invoking m args :: below)).setFrames (T.setVm s.vm).frames with heap := T.heap, slotsUsed := T.slotsUsed }
      rw [State.setFrames_setFrames, State.setFrames_self ht]
      rfl
    · show T.slotsUsed = T.slotsUsed + ((T.heap.toList.drop T.heap.size).map (·.slots.size)).sum
      rw [List.drop_eq_nil_of_le (Nat.le_of_eq Array.length_toList)]
      rfl
    · show ((T.heap.toList.drop T.heap.size).map (·.slots.size)).sum ≤ 0
      rw [List.drop_eq_nil_of_le (Nat.le_of_eq Array.length_toList)]
      exact Nat.le_refl _
/-- 'throw new E()': new; dup; invokespecial; athrow -/
theorem vx_throw0 {cc : ByteArray} {pc : Nat} (hexec : p.tables.exec = Jvm.exec) (hb : c.code = cc) (hl : l.stackTraces = false) {own cls : String} {names : List String} {ik ic mc ms : Nat} {A : Nat → Prop}
    (hown : s.vm.findClass own = some m.cls) (hcls : Bundle.fit cls = true) (hnames : ∀ n ∈ names, Bundle.fit n = true)
    (hk : (Cond.classLink own ik cls).before args s = true) (hini : (Cond.initialized cls).before args s = true) (hat : ∀ w ∈ vx_at0 own ic cls names, w.before args s = true)
    (hgood : ∀ w ∈ Cond.classLink own ik cls :: Cond.initialized cls :: vx_at0 own ic cls names, vx_ot w = true)
    (hU : vx_Zq Bundle.tN "UNASSIGNED_STACK" Bundle.steD A s s.heap) (hN : vx_Zq Bundle.tN "SUPPRESSED_SENTINEL" Bundle.listD A s s.heap) (hS : va_S A s.heap H locs) (hsize : ls.size = c.maxLocals)
    (d0 : decode cc pc = .ok (.new ik, 3)) (d3 : decode cc (pc + 3) = .ok (.dup, 1)) (d4 : decode cc (pc + 4) = .ok (.invokespecial ic, 3)) (d7 : decode cc (pc + 7) = .ok (.athrow, 1))
    (hout : ∀ x ∈ c.exceptionTable.toList, covers x (pc + 7) = false)
    (hRframes : names.length + 3 < R.frames) (hRlocals : (rest.map fun v => v.category).sum + (13 * (names.length + 1) + 42) ≤ R.locals) (hRcells : cells + 1 ≤ R.cells) (hRslots : slots + 6 ≤ R.slots) (hlocks : meth.locks = false)
    (hx : ∀ t : State, s.vm.Alike t.vm → H.size ≤ t.heap.size → (∀ q : Nat, q < H.size → t.heap[q]? = H[q]?) → XC cls s t)
    (hf : ∀ z ∈ locs, free z.base) (hc : cells + 1 ≤ mc) (hs : slots + 6 ≤ ms) :
    W p l e R s m args below meth c H locs cells slots (vx_MQ below Qc XC args s mc ms free) (F0 m pc ls rest) := by
  intro T hT X
  have htr : e.platform.stackTraces = false := (show e.platform.stackTraces = l.stackTraces by rw [X.admits.platform]).trans hl
  have Y := vx_rebase X (R' := { frames := R.frames, locals := R.locals, cells := 1, slots := 6 }) (Nat.le_refl _) (Nat.le_refl _) hRcells hRslots
  obtain ⟨s', hA⟩ : ∃ z, z = (T.setVm s.vm).setFrames (.invoking m args :: below) := ⟨_, rfl⟩
  rw [← hA] at Y
  have hvm : s'.vm = s.vm := by rw [hA]; rfl
  have hhp : s'.heap = H := by rw [hA]; exact hT
  have hW0 : s.WarmedH s'.vm := by rw [hvm]; exact State.WarmedH.refl s
  have hat' : ∀ w ∈ vx_at0 own ic cls names, w.before args s' = true := fun w hw => vx_ot_at hW0 hvm.symm (hgood w (List.mem_cons_of_mem _ (List.mem_cons_of_mem _ hw))) (hat w hw)
  have hk' : (Cond.classLink own ik cls).before args s' = true := vx_ot_at hW0 hvm.symm (hgood _ List.mem_cons_self) hk
  have hini' : (Cond.initialized cls).before args s' = true := vx_ot_at hW0 hvm.symm (hgood _ (List.mem_cons_of_mem _ List.mem_cons_self)) hini
  have hU' : vx_Zq Bundle.tN "UNASSIGNED_STACK" Bundle.steD A s' s'.heap := by rw [hhp]; exact vx_Zq.moved hW0.alike (hU.kept hS.2.1)
  have hN' : vx_Zq Bundle.tN "SUPPRESSED_SENTINEL" Bundle.listD A s' s'.heap := by rw [hhp]; exact vx_Zq.moved hW0.alike (hN.kept hS.2.1)
  have h : ∀ w ∈ Bundle.ownAtoms0 own ic cls names, w.before args s' = true := vx_own hat' (vx_isRefq hU'.1) (vx_isRefq hN'.1) hU'.2.word hN'.2.word
  have hown' : s'.vm.findClass own = some m.cls := by rw [hvm]; exact hown
  have hins : (Cond.instantiable cls 6).before args s' = true := h _ (by simp [Bundle.ownAtoms0])
  obtain ⟨vm₁, cX, kX, hfX, hkX, -, -, X₁, st1⟩ := Y.newCold hexec (own := own) (C := cls) (index := ik) (n := 6) hown' hk' hins hini'
    (g := F0 m pc ls rest) rfl (by rw [hb]; exact d0) (Nat.le_refl _) (Nat.le_refl _)
  generalize hT1 : (T.setVm vm₁).pushCell { cls := cX, slots := kX.instanceTypes.map defaultValue, vm := .none } = T1 at X₁ st1
  have hcat : (Value.ref T.heap.size).category = 1 := rfl
  have hcellA : T1.heap[T.heap.size]? = some (freshCell cX kX) := by rw [← hT1]; exact State.heap_pushCell_size _ _
  have d3' : decode c.code (pc + 3) = .ok (.dup, 1) := by rw [hb]; exact d3
  obtain ⟨U, hsteps, hrun, hend, hW, hsame, ce, hce, hO⟩ := X₁.ctorThrow0 hexec htr (own := own) (cls := cls) (names := names) (ic := ic) hown' hcls hnames h (fun x hx => nomatch hx) hfX hkX hcellA (by rw [hhp, hT]; exact Nat.le_refl _)
    (g := { method := m, pc := pc + 4, locals := ls, stack := .ref T.heap.size :: .ref T.heap.size :: rest, locked := none }) rfl hsize rfl rfl (rest := rest) rfl
    (by rw [hb]; exact d4) (by rw [hb]; exact d7) hout hRframes (by simp only [List.map_cons, List.sum_cons, hcat]; omega) hlocks
  obtain ⟨f1, f2⟩ := vx_frame hsame
  rw [hhp] at f1 f2
  have hWs : s.WarmedH U.vm := State.WarmedH.trans hW0 hW
  have hcl : s.vm.findClass cls = some ce.cls := by
    have h9 := hO.cls
    rw [hvm] at h9
    exact h9
  have hall : s.sameButNew ({ U with vm := s.vm } : State) locs mc ms := by
    subst hA
    obtain ⟨e1, e2⟩ := hsame
    rw [State.setFrames_setFrames] at e1
    have h2 : (T.setVm s.vm).sameButNew ({ U with vm := s.vm } : State) [] (0 + 1) (0 + 6) := ⟨e1, e2⟩
    have h3 := X.same.trans h2
    rw [List.append_nil] at h3
    exact h3.mono hc hs
  refine ⟨U, ?_, .threw T.heap.size, hrun, hend, Or.inr ⟨T.heap.size, rfl, cls, ce, locs, hx U hWs.alike f1 (fun q hq => f2 q hq (fun z hz => nomatch hz)), hce, hO.vm, hcl, hWs, hall, hf⟩⟩
  refine st1 _ ?_
  show Steps p.tables e below (T1.setTop { method := m, pc := pc + 3, locals := ls, stack := .ref T.heap.size :: rest, locked := none }) _
  jvm_step X₁.here [X₁.here.top, hexec, d3', Value.category]
  exact hsteps
/-- 'throw new E("text")': new; dup; ldc; invokespecial; athrow -/
theorem vx_throwS {cc : ByteArray} {pc : Nat} (hexec : p.tables.exec = Jvm.exec) (hb : c.code = cc) (hl : l.stackTraces = false) {own cls text : String} {names : List String} {ik is ic mc ms sa : Nat} {A : Nat → Prop}
    (hown : s.vm.findClass own = some m.cls) (hcls : Bundle.fit cls = true) (hnames : ∀ n ∈ names, Bundle.fit n = true)
    (hk : (Cond.classLink own ik cls).before args s = true) (hini : (Cond.initialized cls).before args s = true) (hstr : vk_R own is text sa s) (hat : ∀ w ∈ vx_atS own ic cls names, w.before args s = true)
    (hgood : ∀ w ∈ Cond.classLink own ik cls :: Cond.initialized cls :: vx_atS own ic cls names, vx_ot w = true)
    (hU : vx_Zq Bundle.tN "UNASSIGNED_STACK" Bundle.steD A s s.heap) (hN : vx_Zq Bundle.tN "SUPPRESSED_SENTINEL" Bundle.listD A s s.heap) (hS : va_S A s.heap H locs) (hsize : ls.size = c.maxLocals)
    (d0 : decode cc pc = .ok (.new ik, 3)) (d3 : decode cc (pc + 3) = .ok (.dup, 1)) (d4 : decode cc (pc + 4) = .ok (.ldc is, 2)) (d6 : decode cc (pc + 6) = .ok (.invokespecial ic, 3)) (d9 : decode cc (pc + 9) = .ok (.athrow, 1))
    (hout : ∀ x ∈ c.exceptionTable.toList, covers x (pc + 9) = false)
    (hRframes : names.length + 3 < R.frames) (hRlocals : (rest.map fun v => v.category).sum + (13 * (names.length + 1) + 43) ≤ R.locals) (hRcells : cells + 1 ≤ R.cells) (hRslots : slots + 6 ≤ R.slots) (hlocks : meth.locks = false)
    (hx : ∀ t : State, s.vm.Alike t.vm → H.size ≤ t.heap.size → (∀ q : Nat, q < H.size → t.heap[q]? = H[q]?) → XC cls s t)
    (hf : ∀ z ∈ locs, free z.base) (hc : cells + 1 ≤ mc) (hs : slots + 6 ≤ ms) :
    W p l e R s m args below meth c H locs cells slots (vx_MQ below Qc XC args s mc ms free) (F0 m pc ls rest) := by
  intro T hT X
  have htr : e.platform.stackTraces = false := (show e.platform.stackTraces = l.stackTraces by rw [X.admits.platform]).trans hl
  have Y := vx_rebase X (R' := { frames := R.frames, locals := R.locals, cells := 1, slots := 6 }) (Nat.le_refl _) (Nat.le_refl _) hRcells hRslots
  obtain ⟨s', hA⟩ : ∃ z, z = (T.setVm s.vm).setFrames (.invoking m args :: below) := ⟨_, rfl⟩
  rw [← hA] at Y
  have hvm : s'.vm = s.vm := by rw [hA]; rfl
  have hhp : s'.heap = H := by rw [hA]; exact hT
  have hW0 : s.WarmedH s'.vm := by rw [hvm]; exact State.WarmedH.refl s
  have hat' : ∀ w ∈ vx_atS own ic cls names, w.before args s' = true := fun w hw => vx_ot_at hW0 hvm.symm (hgood w (List.mem_cons_of_mem _ (List.mem_cons_of_mem _ hw))) (hat w hw)
  have hk' : (Cond.classLink own ik cls).before args s' = true := vx_ot_at hW0 hvm.symm (hgood _ List.mem_cons_self) hk
  have hini' : (Cond.initialized cls).before args s' = true := vx_ot_at hW0 hvm.symm (hgood _ (List.mem_cons_of_mem _ List.mem_cons_self)) hini
  have hU' : vx_Zq Bundle.tN "UNASSIGNED_STACK" Bundle.steD A s' s'.heap := by rw [hhp]; exact vx_Zq.moved hW0.alike (hU.kept hS.2.1)
  have hN' : vx_Zq Bundle.tN "SUPPRESSED_SENTINEL" Bundle.listD A s' s'.heap := by rw [hhp]; exact vx_Zq.moved hW0.alike (hN.kept hS.2.1)
  have h : ∀ w ∈ Bundle.ownAtoms own ic cls names, w.before args s' = true := vx_own hat' (vx_isRefq hU'.1) (vx_isRefq hN'.1) hU'.2.word hN'.2.word
  have hown' : s'.vm.findClass own = some m.cls := by rw [hvm]; exact hown
  have hins : (Cond.instantiable cls 6).before args s' = true := h _ (by simp [Bundle.ownAtoms])
  obtain ⟨vm₁, cX, kX, hfX, hkX, -, -, X₁, st1⟩ := Y.newCold hexec (own := own) (C := cls) (index := ik) (n := 6) hown' hk' hins hini'
    (g := F0 m pc ls rest) rfl (by rw [hb]; exact d0) (Nat.le_refl _) (Nat.le_refl _)
  generalize hT1 : (T.setVm vm₁).pushCell { cls := cX, slots := kX.instanceTypes.map defaultValue, vm := .none } = T1 at X₁ st1
  have hcat : (Value.ref T.heap.size).category = 1 := rfl
  have hcellA : T1.heap[T.heap.size]? = some (freshCell cX kX) := by rw [← hT1]; exact State.heap_pushCell_size _ _
  have d3' : decode c.code (pc + 3) = .ok (.dup, 1) := by rw [hb]; exact d3
  have d4' : decode c.code (pc + 4) = .ok (.ldc is, 2) := by rw [hb]; exact d4
  have hstr' : vk_R own is text sa s' := vk_R.warm hW0 hstr
  obtain ⟨U, hsteps, hrun, hend, hW, hsame, ce, hce, hO⟩ := X₁.ctorThrowS hexec htr (own := own) (cls := cls) (names := names) (ic := ic) hown' hcls hnames h (fun x hx => nomatch hx) hfX hkX hcellA (by rw [hhp, hT]; exact Nat.le_refl _) (msg := .ref sa) rfl
    (g := { method := m, pc := pc + 6, locals := ls, stack := .ref sa :: .ref T.heap.size :: .ref T.heap.size :: rest, locked := none }) rfl hsize rfl rfl (rest := rest) rfl
    (by rw [hb]; exact d6) (by rw [hb]; exact d9) hout hRframes (by simp only [List.map_cons, List.sum_cons, hcat]; omega) hlocks
  obtain ⟨f1, f2⟩ := vx_frame hsame
  rw [hhp] at f1 f2
  have hWs : s.WarmedH U.vm := State.WarmedH.trans hW0 hW
  have hcl : s.vm.findClass cls = some ce.cls := by
    have h9 := hO.cls
    rw [hvm] at h9
    exact h9
  have hall : s.sameButNew ({ U with vm := s.vm } : State) locs mc ms := by
    subst hA
    obtain ⟨e1, e2⟩ := hsame
    rw [State.setFrames_setFrames] at e1
    have h2 : (T.setVm s.vm).sameButNew ({ U with vm := s.vm } : State) [] (0 + 1) (0 + 6) := ⟨e1, e2⟩
    have h3 := X.same.trans h2
    rw [List.append_nil] at h3
    exact h3.mono hc hs
  refine ⟨U, ?_, .threw T.heap.size, hrun, hend, Or.inr ⟨T.heap.size, rfl, cls, ce, locs, hx U hWs.alike f1 (fun q hq => f2 q hq (fun z hz => nomatch hz)), hce, hO.vm, hcl, hWs, hall, hf⟩⟩
  refine st1 _ ?_
  show Steps p.tables e below (T1.setTop { method := m, pc := pc + 3, locals := ls, stack := .ref T.heap.size :: rest, locked := none }) _
  jvm_step X₁.here [X₁.here.top, hexec, d3', Value.category]
  exact X₁.ldcString hexec (own := own) (text := text) (index := is) (a := sa) hown' hstr'.1 hstr'.2
    (g := { method := m, pc := pc + 4, locals := ls, stack := .ref T.heap.size :: .ref T.heap.size :: rest, locked := none }) rfl d4' _ hsteps
/-- 'throw new E("text")', the text by a wide index -/
theorem vx_throwSW {cc : ByteArray} {pc : Nat} (hexec : p.tables.exec = Jvm.exec) (hb : c.code = cc) (hl : l.stackTraces = false) {own cls text : String} {names : List String} {ik is ic mc ms sa : Nat} {A : Nat → Prop}
    (hown : s.vm.findClass own = some m.cls) (hcls : Bundle.fit cls = true) (hnames : ∀ n ∈ names, Bundle.fit n = true)
    (hk : (Cond.classLink own ik cls).before args s = true) (hini : (Cond.initialized cls).before args s = true) (hstr : vk_R own is text sa s) (hat : ∀ w ∈ vx_atS own ic cls names, w.before args s = true)
    (hgood : ∀ w ∈ Cond.classLink own ik cls :: Cond.initialized cls :: vx_atS own ic cls names, vx_ot w = true)
    (hU : vx_Zq Bundle.tN "UNASSIGNED_STACK" Bundle.steD A s s.heap) (hN : vx_Zq Bundle.tN "SUPPRESSED_SENTINEL" Bundle.listD A s s.heap) (hS : va_S A s.heap H locs) (hsize : ls.size = c.maxLocals)
    (d0 : decode cc pc = .ok (.new ik, 3)) (d3 : decode cc (pc + 3) = .ok (.dup, 1)) (d4 : decode cc (pc + 4) = .ok (.ldc_w is, 3)) (d7 : decode cc (pc + 7) = .ok (.invokespecial ic, 3)) (d10 : decode cc (pc + 10) = .ok (.athrow, 1))
    (hout : ∀ x ∈ c.exceptionTable.toList, covers x (pc + 10) = false)
    (hRframes : names.length + 3 < R.frames) (hRlocals : (rest.map fun v => v.category).sum + (13 * (names.length + 1) + 43) ≤ R.locals) (hRcells : cells + 1 ≤ R.cells) (hRslots : slots + 6 ≤ R.slots) (hlocks : meth.locks = false)
    (hx : ∀ t : State, s.vm.Alike t.vm → H.size ≤ t.heap.size → (∀ q : Nat, q < H.size → t.heap[q]? = H[q]?) → XC cls s t)
    (hf : ∀ z ∈ locs, free z.base) (hc : cells + 1 ≤ mc) (hs : slots + 6 ≤ ms) :
    W p l e R s m args below meth c H locs cells slots (vx_MQ below Qc XC args s mc ms free) (F0 m pc ls rest) := by
  intro T hT X
  have htr : e.platform.stackTraces = false := (show e.platform.stackTraces = l.stackTraces by rw [X.admits.platform]).trans hl
  have Y := vx_rebase X (R' := { frames := R.frames, locals := R.locals, cells := 1, slots := 6 }) (Nat.le_refl _) (Nat.le_refl _) hRcells hRslots
  obtain ⟨s', hA⟩ : ∃ z, z = (T.setVm s.vm).setFrames (.invoking m args :: below) := ⟨_, rfl⟩
  rw [← hA] at Y
  have hvm : s'.vm = s.vm := by rw [hA]; rfl
  have hhp : s'.heap = H := by rw [hA]; exact hT
  have hW0 : s.WarmedH s'.vm := by rw [hvm]; exact State.WarmedH.refl s
  have hat' : ∀ w ∈ vx_atS own ic cls names, w.before args s' = true := fun w hw => vx_ot_at hW0 hvm.symm (hgood w (List.mem_cons_of_mem _ (List.mem_cons_of_mem _ hw))) (hat w hw)
  have hk' : (Cond.classLink own ik cls).before args s' = true := vx_ot_at hW0 hvm.symm (hgood _ List.mem_cons_self) hk
  have hini' : (Cond.initialized cls).before args s' = true := vx_ot_at hW0 hvm.symm (hgood _ (List.mem_cons_of_mem _ List.mem_cons_self)) hini
  have hU' : vx_Zq Bundle.tN "UNASSIGNED_STACK" Bundle.steD A s' s'.heap := by rw [hhp]; exact vx_Zq.moved hW0.alike (hU.kept hS.2.1)
  have hN' : vx_Zq Bundle.tN "SUPPRESSED_SENTINEL" Bundle.listD A s' s'.heap := by rw [hhp]; exact vx_Zq.moved hW0.alike (hN.kept hS.2.1)
  have h : ∀ w ∈ Bundle.ownAtoms own ic cls names, w.before args s' = true := vx_own hat' (vx_isRefq hU'.1) (vx_isRefq hN'.1) hU'.2.word hN'.2.word
  have hown' : s'.vm.findClass own = some m.cls := by rw [hvm]; exact hown
  have hins : (Cond.instantiable cls 6).before args s' = true := h _ (by simp [Bundle.ownAtoms])
  obtain ⟨vm₁, cX, kX, hfX, hkX, -, -, X₁, st1⟩ := Y.newCold hexec (own := own) (C := cls) (index := ik) (n := 6) hown' hk' hins hini'
    (g := F0 m pc ls rest) rfl (by rw [hb]; exact d0) (Nat.le_refl _) (Nat.le_refl _)
  generalize hT1 : (T.setVm vm₁).pushCell { cls := cX, slots := kX.instanceTypes.map defaultValue, vm := .none } = T1 at X₁ st1
  have hcat : (Value.ref T.heap.size).category = 1 := rfl
  have hcellA : T1.heap[T.heap.size]? = some (freshCell cX kX) := by rw [← hT1]; exact State.heap_pushCell_size _ _
  have d3' : decode c.code (pc + 3) = .ok (.dup, 1) := by rw [hb]; exact d3
  have d4' : decode c.code (pc + 4) = .ok (.ldc_w is, 3) := by rw [hb]; exact d4
  have hstr' : vk_R own is text sa s' := vk_R.warm hW0 hstr
  obtain ⟨U, hsteps, hrun, hend, hW, hsame, ce, hce, hO⟩ := X₁.ctorThrowS hexec htr (own := own) (cls := cls) (names := names) (ic := ic) hown' hcls hnames h (fun x hx => nomatch hx) hfX hkX hcellA (by rw [hhp, hT]; exact Nat.le_refl _) (msg := .ref sa) rfl
    (g := { method := m, pc := pc + 7, locals := ls, stack := .ref sa :: .ref T.heap.size :: .ref T.heap.size :: rest, locked := none }) rfl hsize rfl rfl (rest := rest) rfl
    (by rw [hb]; exact d7) (by rw [hb]; exact d10) hout hRframes (by simp only [List.map_cons, List.sum_cons, hcat]; omega) hlocks
  obtain ⟨f1, f2⟩ := vx_frame hsame
  rw [hhp] at f1 f2
  have hWs : s.WarmedH U.vm := State.WarmedH.trans hW0 hW
  have hcl : s.vm.findClass cls = some ce.cls := by
    have h9 := hO.cls
    rw [hvm] at h9
    exact h9
  have hall : s.sameButNew ({ U with vm := s.vm } : State) locs mc ms := by
    subst hA
    obtain ⟨e1, e2⟩ := hsame
    rw [State.setFrames_setFrames] at e1
    have h2 : (T.setVm s.vm).sameButNew ({ U with vm := s.vm } : State) [] (0 + 1) (0 + 6) := ⟨e1, e2⟩
    have h3 := X.same.trans h2
    rw [List.append_nil] at h3
    exact h3.mono hc hs
  refine ⟨U, ?_, .threw T.heap.size, hrun, hend, Or.inr ⟨T.heap.size, rfl, cls, ce, locs, hx U hWs.alike f1 (fun q hq => f2 q hq (fun z hz => nomatch hz)), hce, hO.vm, hcl, hWs, hall, hf⟩⟩
  refine st1 _ ?_
  show Steps p.tables e below (T1.setTop { method := m, pc := pc + 3, locals := ls, stack := .ref T.heap.size :: rest, locked := none }) _
  jvm_step X₁.here [X₁.here.top, hexec, d3', Value.category]
  exact X₁.ldcStringW hexec (own := own) (text := text) (index := is) (a := sa) hown' hstr'.1 hstr'.2
    (g := { method := m, pc := pc + 4, locals := ls, stack := .ref T.heap.size :: .ref T.heap.size :: rest, locked := none }) rfl d4' _ hsteps
end Ends
section Bodies
variable {l : Launch}
theorem vx_ofW {y : MethodName} {ws ws' : List Cond} {rm : Room} {Pc : Array Value → State → Prop} {Qc : Array Value → State → Outcome → State → Prop} {XC : String → State → State → Prop} {mc ms : Nat} {free : Addr → Prop} {cc : ByteArray} {maxL : Nat} {ret : Option FieldType}
    (hy : plainName y.cls = true) (hw : ws = Cond.code y cc maxL ret :: ws')
    (body : ∀ p e s m args below meth c s₁, BodyLoose p l y (headSpec ws rm) cc maxL ret e s m args below meth c s₁ → c.maxLocals = maxL → (∀ x ∈ c.exceptionTable.toList, False) → Pc args s →
      W p l e (headSpec ws rm).room s m args below meth c s.heap [] 0 0 (vx_MQ below Qc XC args s mc ms free) (entryFrame m args maxL)) : vx_Met l y ws rm Pc Qc XC mc ms free := by
  refine MetFree.of_bodyS (code := cc) (maxLocals := maxL) (ret := ret) hy ?_ ?_
  · intro args s m h hn
    obtain ⟨meth, c, h1, h2, h3, h4, h5, h6, -, -⟩ := Cond.code_spec hn (atoms_spec (ws := ws) h _ (by rw [hw]; exact List.mem_cons_self))
    exact ⟨meth, c, h1, h2, h3, h4, h5, h6⟩
  · intro p e s m args below meth c s₁ B hml hP _
    have hh0 : s₁.heap = s.heap := by rw [B.state]; rfl
    have ht : ∀ x ∈ c.exceptionTable.toList, False := by
      obtain ⟨meth9, c9, h1, h2, -, -, -, -, h7, -⟩ := Cond.code_spec B.named (atoms_spec (ws := ws) B.pre _ (by rw [hw]; exact List.mem_cons_self))
      cases Option.some.inj (h1.symm.trans B.method)
      cases Option.some.inj (h2.symm.trans (Stand.of_body B).code)
      intro x hx
      rw [Array.isEmpty_iff.mp h7] at hx
      cases hx
    obtain ⟨t, a1, o, b1, b2, b3⟩ := body p e s m args below meth c s₁ B hml ht hP s₁ hh0 (Stand.of_body B)
    exact ⟨t, o, a1, b1, b2, b3⟩
/-- the table of a body with handlers -/
theorem vx_table {p : Program} {x y : MethodName} {S : Spec} {cc bytes : ByteArray} {maxL maxL' : Nat} {ret ret' : Option FieldType} {e : Env} {s s₁ : State} {m : MethodId} {args : Array Value} {below : List Frame} {meth : Method} {c : Code} {hh : List (Nat × Nat × Nat × Nat)}
    (B : BodyLoose p l y S cc maxL ret e s m args below meth c s₁) (h : (Cond.codeWith y bytes maxL' ret' hh).before args s = true) : c.exceptionTable.toList = tableOf hh := by
  obtain ⟨m9, meth9, c9, hn9, h1, h2, -, -, h6, -⟩ := Cond.codeWith_spec h
  cases Option.some.inj (hn9.symm.trans B.named)
  cases Option.some.inj (h1.symm.trans B.method)
  cases Option.some.inj (h2.symm.trans (Stand.of_body B).code)
  rw [← h6, table_eq]
end Bodies
end VXA
/-! ===== END ===== -/
/-! ===== BEGIN a static call of a method with an exception table ===== -/
section VXS
variable {p : Program} {l : Launch} {e : Env} {R : Room} {s : State} {m : MethodId} {args : Array Value} {below : List Frame} {meth : Method} {c : Code} {T : State} {H : Heap} {locs : List Loc} {cells slots : Nat}
abbrev vx_CSW (R : Room) (s : State) (args : Array Value) (own : String) (index : Nat) (y : MethodName) (bytes : ByteArray) (maxL : Nat) (ret : Option FieldType) (hh : List (Nat × Nat × Nat × Nat)) (ws : List Cond) (rm : Room) (mc ms n : Nat) : Prop :=
  (rm.cells = mc ∧ rm.slots = ms ∧ rm.frames + 1 ≤ R.frames ∧ 8 + (maxL + 11) + rm.locals ≤ R.locals ∧ (∀ w ∈ ws, ∀ (a' : Array Value) (U : State), s.WarmedH U.vm → w.before a' U = true) ∧ Cond.codeWith y bytes maxL ret hh ∈ ws) ∧
  (Cond.codeWith y bytes maxL ret hh).before args s = true ∧ (Cond.initialized y.cls).before args s = true ∧ (y.cls ≠ "java/lang/invoke/MethodHandle" ∧ y.cls ≠ "java/lang/invoke/VarHandle") ∧
  (∀ sig, parseMethodDescriptor y.desc = some sig → n = sig.parameters.length) ∧ (Cond.methodLink own index y).before args s = true ∧ (Cond.static y).before args s = true
theorem vx_cwSW {own : String} {index maxL mc ms : Nat} {y : MethodName} {bytes : ByteArray} {ret : Option FieldType} {hh : List (Nat × Nat × Nat × Nat)} {Ts ws ws' : List Cond} {rm : Room} (n : Nat) (ht : ∀ w ∈ Ts, w.before args s = true) (hT : GoodIn Ts (va_wsS own index y ws)) (hw : ws = Cond.codeWith y bytes maxL ret hh :: ws') (hrc : rm.cells = mc) (hrs : rm.slots = ms)
    (hd : y.cls ≠ "java/lang/invoke/MethodHandle" ∧ y.cls ≠ "java/lang/invoke/VarHandle" ∧ (parseMethodDescriptor y.desc).map (fun d => d.parameters.length) = some n) (hR : rm.frames + 1 ≤ R.frames ∧ 8 + (maxL + 11) + rm.locals ≤ R.locals) :
    vx_CSW R s args own index y bytes maxL ret hh ws rm mc ms n := by
  have ok : ∀ w ∈ va_wsS own index y ws, w.before args s = true := fun w h => ht w (hT w h).1
  have hG : GoodIn Ts ws := fun w h => hT w (by unfold va_wsS; exact List.mem_append_right _ h)
  have hc : Cond.codeWith y bytes maxL ret hh ∈ ws := by rw [hw]; exact List.mem_cons_self
  refine ⟨⟨hrc, hrs, hR.1, hR.2, pay_in ht hG, hc⟩, ht _ (hG _ hc).1, ok _ (by simp [va_wsS]), ⟨hd.1, hd.2.1⟩, fun sig h => ?_, ok _ (by simp [va_wsS]), ok _ (by simp [va_wsS])⟩
  have h2 := hd.2.2
  rw [h] at h2
  exact (Option.some.inj h2).symm
theorem vx_callSW (X : Stand p l e R s m args below meth c T locs cells slots) (hexec : p.tables.exec = Jvm.exec) {own : String} {index : Nat} {y : MethodName} {bytes : ByteArray} {maxL : Nat} {ret : Option FieldType} {hh : List (Nat × Nat × Nat × Nat)}
    (hown : s.vm.findClass own = some m.cls) (hlink : (Cond.methodLink own index y).before args s = true) (hstat : (Cond.static y).before args s = true) (hinit : (Cond.initialized y.cls).before args s = true)
    (hcode : (Cond.codeWith y bytes maxL ret hh).before args s = true) (hy : y.cls ≠ "java/lang/invoke/MethodHandle" ∧ y.cls ≠ "java/lang/invoke/VarHandle")
    {W9 : Nat} {Pre : Pt → Array Value → Prop} {Post : Pt → Array Value → Option Value → Pt → Prop} (hK : Back l R p e below s args y 3 W9 Pre Post)
    {g : JFrame} (hg : g.method = m) (hsize : g.locals.size = c.maxLocals) {argsL rest : List Value} (hlen : ∀ sig, parseMethodDescriptor y.desc = some sig → argsL.length = sig.parameters.length)
    (hstack : g.stack = argsL.reverse ++ rest) (hW : 2 * g.monitorRoom + (rest.map fun v => v.category).sum ≤ W9) (hdg : decode c.code g.pc = .ok (.invokestatic index, 3))
    (hpre : ∀ vm₁, s.WarmedH vm₁ → Pre ⟨T.setVm vm₁, locs, cells, slots⟩ argsL.toArray) :
    ∃ (v : Option Value) (vm₁ : Vm) (B : Pt), s.WarmedH vm₁ ∧ Stand p l e R s m args below meth c B.U B.locs B.cells B.slots ∧ Post ⟨T.setVm vm₁, locs, cells, slots⟩ argsL.toArray v B ∧
      ∀ target, Steps p.tables e below (B.U.setTop { g with pc := g.pc + 3, stack := v.toList ++ rest }) target → Steps p.tables e below (T.setTop g) target := by
  obtain ⟨mk, methM, cM, hnamed, hmethM, -, -, -, -, -, -, hsigM⟩ := Cond.codeWith_spec hcode
  have hstatic : methM.isStatic = true := Cond.static_spec hnamed hmethM hstat
  obtain ⟨kP, hkP, -⟩ := className_of_methodNamed hnamed
  have hinitP : kP.init = .initialized := Cond.initialized_spec (findClass_of_methodNamed hnamed) hkP hinit
  obtain ⟨vm₁, X₁, hstep₁⟩ := X.invokestatic hexec hown hlink hnamed hmethM hstatic hkP hinitP hy (g := g) hg (argsL := argsL) (rest := rest) (hlen _ hsigM) hstack hdg
  obtain ⟨v, B, X', hpost, hsteps⟩ := hK m meth c ⟨T.setVm vm₁, locs, cells, slots⟩ { g with stack := rest } (.invokestatic index) mk argsL.toArray X₁ hg hsize hdg hW (X₁.named hnamed) (hpre vm₁ X₁.warmed)
  exact ⟨v, vm₁, B, X₁.warmed, X', hpost, fun target h => hstep₁ _ fun acts => by rw [doInvoke_state]; exact hsteps.trans h⟩
theorem vx_runSW {y : MethodName} {bytes cc : ByteArray} {maxL nL mc ms n index : Nat} {ret : Option FieldType} {hh : List (Nat × Nat × Nat × Nat)} {ws : List Cond} {rm : Room} {Pc : Array Value → State → Prop} {Qc : Array Value → State → Outcome → State → Prop} {free : Addr → Prop} {Ts : List Cond} {own : String} {As rest : List Value} {g : JFrame}
    (S : CallFix p m c cc nL s args Ts own) (hM : Met l y ws rm Pc Qc mc ms free) (cw : vx_CSW R s args own index y bytes maxL ret hh ws rm mc ms n) (hp : PreS s H Pc As)
    (hg : g.method = m) (hn : As.length = n) (hsize : g.locals.size = nL) (hstack : g.stack = As.reverse ++ rest) (hW : 2 * g.monitorRoom + (rest.map fun v => v.category).sum ≤ 8) (hdg : decode cc g.pc = .ok (.invokestatic index, 3)) (hf : cells + mc ≤ R.cells ∧ slots + ms ≤ R.slots) :
    va_Run p l e R s m args below meth c H locs cells slots mc ms g rest (Qc As.toArray) (free) := by
  obtain ⟨⟨hrc, hrs, hfr, hlo, hws, hcw⟩, hcode, hini, hy, hlen, hl, hstt⟩ := cw
  have hK : Back l R p e below s args y 3 8 (PreOf R mc ms Pc) (PostOf Qc mc ms free) := va_backW (hh := hh) (bytes := bytes) (maxL := maxL) (ret := ret) hM hp.1 hrc hrs hfr hlo hws hcw (fun a' U hW => word_at hW (Or.inl (by first | rfl | simp [Cond.onTables, Cond.keeps, Cond.steady])) hini)
  obtain ⟨hx, hb, hml, ho, -⟩ := S
  intro T hT X
  obtain ⟨v, vm₁, ⟨U', l2, c2, s2⟩, hW₁, X', ⟨g', mk, t, L, e1, e2, hq, h1, hL, h2, h3⟩, st⟩ := vx_callSW X hx (hh := hh) (bytes := bytes) (maxL := maxL) (ret := ret) ho hl hstt hini hcode hy hK hg (hsize.trans hml.symm) (argsL := As) (rest := rest) (fun sig h => hn.trans (hlen sig h)) hstack hW (by rw [hb]; exact hdg)
    (fun vm₁ hW₁ => ⟨hf.1, hf.2, hp.2 (T.setVm vm₁) hT hW₁⟩)
  dsimp only [Pt.U, Pt.locs, Pt.cells, Pt.slots] at X' e1 e2 h1 h2 h3 st
  subst h1; subst h2; subst h3
  exact ⟨v, (T.setVm vm₁).calling g' mk As.toArray, t, U', L, hT, X', hL, e1, e2, hq, st⟩
/-- not caught here, past rows that name other classes: it goes on to the caller -/
theorem vx_outP {p : Program} {l : Launch} {e : Env} {R : Room} {s : State} {m : MethodId} {args : Array Value} {below : List Frame} {meth : Method} {c : Code} {H : Heap} {locs : List Loc} {cells slots : Nat} {free : Addr → Prop} {ls : Array Slot} {rest : List Value} {Qc : Array Value → State → Outcome → State → Prop} {XC : String → State → State → Prop}
    {pc : Nat} {own E : String} {ce : Cell} {q : Addr} {mc ms : Nat} (hown : s.vm.findClass own = some m.cls) (hlocks : meth.locks = false)
    (hpass : ∀ z ∈ c.exceptionTable.toList, covers z pc = false ∨ (z.catchType ≠ 0 ∧ ∃ nm : String, (Cond.classLink own z.catchType nm).before args s = true ∧ va_Nc E nm s)) (hcell : H[q]? = some ce) (hv : ce.vm = .none) (hcl : s.vm.findClass E = some ce.cls)
    (hx : ∀ t : State, t.heap = H → s.vm.Alike t.vm → XC E s t) (hf : ∀ z ∈ locs, free z.base) (hc : cells ≤ mc) (hs : slots ≤ ms) :
    vx_W p l e R s m args below meth c H locs cells slots (vx_MQ below Qc XC args s mc ms free) (F0 m pc ls rest) q := by
  intro T hT X
  have hpl : e.platform.magicAccessors = ({} : Platform).magicAccessors := by rw [X.admits.platform]
  obtain ⟨vm', hW', X', st⟩ := X.outThrough hlocks q (g := F0 m pc ls rest) rfl rfl rfl (cell := ce) (by rw [hT]; exact hcell) (by rw [hv]; rfl)
    (by obtain ⟨k9, h9, -⟩ := Vm.findClass_spec hcl; exact ⟨k9, h9⟩) (fun z hz => by
      rcases hpass z hz with h | ⟨hz0, nm, hl1, hn1⟩
      · exact Or.inl h
      · obtain ⟨c6, hc6, hcl6⟩ := Cond.classLink_spec hown hl1 e.platform hpl
        obtain ⟨a8, b8, h1, h2, h3⟩ := hn1
        cases Option.some.inj (h1.symm.trans hcl)
        cases Option.some.inj (h2.symm.trans hc6)
        exact Or.inr ⟨hz0, _, hcl6, h3⟩)
  obtain ⟨g₀, hfr⟩ := X'.frames_eq
  have hcell9 : ((T.setVm vm').setFrames (.throwing q :: below)).heap[q]? = some ce := by
    show T.heap[q]? = some ce
    rw [hT]; exact hcell
  have hend : Ended ((T.setVm vm').setFrames (.throwing q :: below)) below (.threw q) := State.frames_setFrames _ (State.cur_lt_of_frames hfr)
  refine ⟨(T.setVm vm').setFrames (.throwing q :: below), ?_, .threw q, X'.here.running, hend, Or.inr ⟨q, rfl, E, ce, locs, hx _ hT (X'.ends _).1.alike, hcell9, hv, hcl, (X'.ends _).1, (X'.ends _).2.mono hc hs, hf⟩⟩
  rw [X.pushThrowing_eq]
  exact st
/-- a thing of a world lies in the heap -/
theorem vx_lt {D : va_G} {cl : List vw_C} {ws : va_W} {H1 : Heap} (h : va_P D cl ws H1) {k : Nat} {q : Nat × va_E} (hk : ws[k]? = some q) : q.1 < H1.size := (h k q hk).lt
end VXS
/-! ===== END ===== -/
/-! ===== BEGIN methods with a table of their own: called by a name, returning or throwing ===== -/
section VXH
/-! vx_backW, vx_callVX, vx_callSX, vx_callVW, vx_runVW, vx_runVX, vx_runSX, vx_ofWH follow the same proofs as their sisters above (Free/Laws.lean, Shelf42/LK1.lean); vx_outP calls Shelf42/NT130.lean (outThrough). -/
section
variable {l : Launch} {R : Room} {p : Program} {e : Env} {below : List Frame} {s : State} {sargs : Array Value} {y : MethodName} {len W9 : Nat}
theorem vx_backW {ws : List Cond} {rm : Room} {Pc : Array Value → State → Prop} {Qc : Array Value → State → Outcome → State → Prop} {XC : String → State → State → Prop} {mc ms : Nat} {free : Addr → Prop} {bytes : ByteArray} {maxL : Nat} {ret : Option FieldType} {hh : List (Nat × Nat × Nat × Nat)}
    (hM : vx_Met l y ws rm Pc Qc XC mc ms free) (hblind : FrameBlind Pc) (hrc : rm.cells = mc) (hrs : rm.slots = ms)
    (hframes : rm.frames + 1 ≤ R.frames) (hlocals : W9 + (maxL + 11) + rm.locals ≤ R.locals)
    (hws : ∀ w ∈ ws, ∀ a' U, s.WarmedH U.vm → w.before a' U = true) (hcode : Cond.codeWith y bytes maxL ret hh ∈ ws) (hinit : ∀ a' U, s.WarmedH U.vm → (Cond.initialized y.cls).before a' U = true) :
    vx_Back l R p e below s sargs y len W9 (PreOf R mc ms Pc) (PostOf Qc mc ms free) (vx_Post XC mc ms free) := by
  intro m meth c A g ig mk a X hg hsize hdg hW hn hp
  have h1 : (headSpec ws rm).pre.before a A.U = true := atoms_intro fun w hw => hws w hw _ _ X.warmed
  have h2 : (Cond.codeWith y bytes maxL ret hh).before a A.U = true := hws _ hcode _ _ X.warmed
  have h3 : (Cond.initialized y.cls).before a A.U = true := hinit _ _ X.warmed
  have h4 : A.cells + (headSpec ws rm).room.cells ≤ R.cells := by rw [show (headSpec ws rm).room.cells = mc from hrc]; exact hp.1
  have h5 : A.slots + (headSpec ws rm).room.slots ≤ R.slots := by rw [show (headSpec ws rm).room.slots = ms from hrs]; exact hp.2.1
  have hPc : Pc a (A.U.calling g mk a) := hblind _ _ _ _ hp.2.2
  obtain ⟨U, Ls, c0, s0⟩ := A
  dsimp only [Pt.U, Pt.locs, Pt.cells, Pt.slots] at h1 h2 h3 h4 h5 X hn hPc ⊢
  obtain ⟨m9, methY, cY, hn9, hmY, hcY, -, hlY, -⟩ := Cond.codeWith_spec h2
  cases Option.some.inj (hn9.symm.trans hn)
  obtain ⟨kY, hkY, -⟩ := className_of_methodNamed hn
  have hinitY : kY.init = .initialized := Cond.initialized_spec (findClass_of_methodNamed hn) hkY h3
  have h : At U g.method c below := by rw [hg]; exact X.here
  have hlocals9 : W9 + (maxL + 11) + (headSpec ws rm).room.locals ≤ R.locals := hlocals
  have happ : (headSpec ws rm).appliesLoose y e.platform (U.calling g mk a) = true :=
    Spec.appliesLoose_calling (g := g) h hdg hn hkY hinitY
      (X.room_calling (g := g) (R' := (headSpec ws rm).room) hsize hmY hcY hframes (by rw [hlY]; omega) h4 h5) h1
  obtain ⟨mid, hmid⟩ := h.above
  have hfr : (U.setTop g).frames = (.java g :: mid) ++ below := by rw [State.frames_setTop' g h.top, hmid]; rfl
  obtain ⟨o, s₂, hsteps, -, hend, hq⟩ := Steps.callFree hM p X.admits X.cas X.clock (acts := []) hfr happ hPc trivial
  have hq' : vx_Q Qc XC mc ms free a (U.calling g mk a) o s₂ := hq
  rw [State.frames_setTop' g h.top] at hend
  obtain ⟨g₀, hg0⟩ := Option.isSome_iff_exists.mp h.top
  obtain ⟨r, hr⟩ := State.topJava?_eq_some.mp hg0
  have hr' : (({ U with heap := s₂.heap, slotsUsed := s₂.slotsUsed } : State).setVm s₂.vm).frames = .java g₀ :: r := hr
  rcases hq' with ⟨hqc, L, hfe, hL⟩ | ⟨q, rfl, E, ce, L, hx, hce, hcv, hcl, hW₂, hsm, hL⟩
  · obtain ⟨⟨v, rfl⟩, hW₂, e2, q2, q3, q4, q5, q6⟩ := id hfe
    have e3 : s₂ = ({ (U.calling g mk a).setFrames s₂.frames with heap := s₂.heap, slotsUsed := s₂.slotsUsed } : State).setVm s₂.vm := by
      have : s₂ = ({ s₂ with vm := (U.calling g mk a).vm } : State).setVm s₂.vm := rfl
      rw [e2] at this
      exact this
    obtain ⟨c₂, i₂, len₂, hc₂, hd₂, hf₂⟩ := hend
    have hW' : U.WarmedH s₂.vm := hW₂
    have hcc : c₂ = c := by
      have h1 : s₂.code? g.method = U.code? g.method := by
        rw [State.code?_eq, State.code?_eq, hW'.alike.method?]
      exact Option.some.inj (hc₂.symm.trans (h1.trans h.code))
    subst hcc
    have hlen : len₂ = len := by rw [hdg] at hd₂; cases hd₂; rfl
    subst hlen
    have hs₂ : s₂ = (({ U with heap := s₂.heap, slotsUsed := s₂.slotsUsed } : State).setVm s₂.vm).setTop { g with pc := g.pc + len₂, stack := v.toList ++ g.stack } := by
      refine e3.trans ?_
      rw [hf₂, State.calling_eq h.top, State.setFrames_setFrames, State.setTop_of_frames _ hr', hr]
      rfl
    have hsame : U.sameButNew ({ U with heap := s₂.heap, slotsUsed := s₂.slotsUsed } : State) L mc ms := by
      refine ⟨?_, q2, q3, q4, q5, q6⟩
      obtain ⟨t, ht, -⟩ := State.frames_cons hr
      show ({ U with heap := s₂.heap, slotsUsed := s₂.slotsUsed } : State) = { U.setFrames U.frames with heap := s₂.heap, slotsUsed := s₂.slotsUsed }
      rw [State.setFrames_self ht]
    subst hg
    refine Or.inl ⟨v, ⟨(({ U with heap := s₂.heap, slotsUsed := s₂.slotsUsed } : State).setVm s₂.vm), Ls ++ L, c0 + mc, s0 + ms⟩,
      ⟨X.admits, X.cas, X.clock, X.frames, X.room, X.hears, X.method, X.code, (X.here.setHeapUsed s₂.heap s₂.slotsUsed).setVm hW'.alike, X.tail, State.WarmedH.trans X.warmed hW', X.limits, X.bytes, X.same.trans (hsame.setVm s.vm)⟩,
      ⟨g, mk, s₂, L, rfl, rfl, hqc, rfl, hL, rfl, rfl⟩, ?_⟩
    show Steps p.tables e below _ ((({ U with heap := s₂.heap, slotsUsed := s₂.slotsUsed } : State).setVm s₂.vm).setTop { g with pc := g.pc + len₂, stack := v.toList ++ g.stack })
    rw [← hs₂]
    exact hsteps
  · obtain ⟨e2, q2, q3, q4, q5, q6⟩ := id hsm
    have e3 : s₂ = ({ (U.calling g mk a).setFrames s₂.frames with heap := s₂.heap, slotsUsed := s₂.slotsUsed } : State).setVm s₂.vm := by
      have : s₂ = ({ s₂ with vm := (U.calling g mk a).vm } : State).setVm s₂.vm := rfl
      rw [e2] at this
      exact this
    have hf₂ : s₂.frames = .throwing q :: .java g :: U.frames.tail := hend
    have hW' : U.WarmedH s₂.vm := hW₂
    have hs₂ : s₂ = ((({ U with heap := s₂.heap, slotsUsed := s₂.slotsUsed } : State).setVm s₂.vm).setTop g).pushFrame (.throwing q) := by
      refine e3.trans ?_
      rw [hf₂, State.calling_eq h.top, State.setFrames_setFrames, State.pushFrame, State.frames_setTop _ hr', State.setTop_of_frames _ hr', State.setFrames_setFrames, hr]
      rfl
    have hsame : U.sameButNew ({ U with heap := s₂.heap, slotsUsed := s₂.slotsUsed } : State) L mc ms := by
      refine ⟨?_, q2, q3, q4, q5, q6⟩
      obtain ⟨t, ht, -⟩ := State.frames_cons hr
      show ({ U with heap := s₂.heap, slotsUsed := s₂.slotsUsed } : State) = { U.setFrames U.frames with heap := s₂.heap, slotsUsed := s₂.slotsUsed }
      rw [State.setFrames_self ht]
    subst hg
    refine Or.inr ⟨q, ⟨(({ U with heap := s₂.heap, slotsUsed := s₂.slotsUsed } : State).setVm s₂.vm), Ls ++ L, c0 + mc, s0 + ms⟩,
      ⟨X.admits, X.cas, X.clock, X.frames, X.room, X.hears, X.method, X.code, (X.here.setHeapUsed s₂.heap s₂.slotsUsed).setVm hW'.alike, X.tail, State.WarmedH.trans X.warmed hW', X.limits, X.bytes, X.same.trans (hsame.setVm s.vm)⟩,
      ⟨g, mk, s₂, L, E, ce, rfl, rfl, hx, hce, hcv, hcl, rfl, hL, rfl, rfl⟩, ?_⟩
    show Steps p.tables e below _ (((({ U with heap := s₂.heap, slotsUsed := s₂.slotsUsed } : State).setVm s₂.vm).setTop g).pushFrame (.throwing q))
    rw [← hs₂]
    exact hsteps
end
variable {p : Program} {l : Launch} {e : Env} {R : Room} {s : State} {m : MethodId} {args : Array Value} {below : List Frame} {meth : Method} {c : Code} {T : State} {H : Heap} {locs : List Loc} {cells slots : Nat}
theorem vx_callVX (X : Stand p l e R s m args below meth c T locs cells slots) (hexec : p.tables.exec = Jvm.exec) {own C : String} {index : Nat} {y : MethodName} {bytes : ByteArray} {maxL : Nat} {ret : Option FieldType} {hh : List (Nat × Nat × Nat × Nat)}
    (hown : s.vm.findClass own = some m.cls) (hlink : (Cond.methodLink own index y).before args s = true) (hinst : (Cond.instanceMethod y).before args s = true) (hsel : (Cond.selects C y y).before args s = true)
    (hcode : (Cond.codeWith y bytes maxL ret hh).before args s = true) (hy : y.cls ≠ "java/lang/invoke/MethodHandle" ∧ y.cls ≠ "java/lang/invoke/VarHandle")
    {W9 : Nat} {Pre : Pt → Array Value → Prop} {Post : Pt → Array Value → Option Value → Pt → Prop} {PostX : Pt → Array Value → Addr → Pt → Prop} (hK : vx_Back l R p e below s args y 3 W9 Pre Post PostX)
    {b : Addr} {cellB : Cell} (hcell : T.heap[b]? = some cellB) (hobj : cellB.vm.isStatics = false) (hcls : s.vm.findClass C = some cellB.cls)
    {g : JFrame} (hg : g.method = m) (hsize : g.locals.size = c.maxLocals) {argsL rest : List Value} (hlen : ∀ sig, parseMethodDescriptor y.desc = some sig → argsL.length = sig.parameters.length)
    (hstack : g.stack = argsL.reverse ++ .ref b :: rest) (hW : 2 * g.monitorRoom + (rest.map fun v => v.category).sum ≤ W9) (hdg : decode c.code g.pc = .ok (.invokevirtual index, 3))
    (hpre : ∀ vm₁, s.WarmedH vm₁ → Pre ⟨T.setVm vm₁, locs, cells, slots⟩ (Value.ref b :: argsL).toArray) :
    (∃ (v : Option Value) (vm₁ : Vm) (B : Pt), s.WarmedH vm₁ ∧ Stand p l e R s m args below meth c B.U B.locs B.cells B.slots ∧ Post ⟨T.setVm vm₁, locs, cells, slots⟩ (Value.ref b :: argsL).toArray v B ∧
      ∀ target, Steps p.tables e below (B.U.setTop { g with pc := g.pc + 3, stack := v.toList ++ rest }) target → Steps p.tables e below (T.setTop g) target) ∨
    (∃ (q : Addr) (vm₁ : Vm) (B : Pt), s.WarmedH vm₁ ∧ Stand p l e R s m args below meth c B.U B.locs B.cells B.slots ∧ PostX ⟨T.setVm vm₁, locs, cells, slots⟩ (Value.ref b :: argsL).toArray q B ∧
      Steps p.tables e below (T.setTop g) ((B.U.setTop { g with stack := rest }).pushFrame (.throwing q))) := by
  obtain ⟨mk, methM, hnamed, hmethM, hstM, habM⟩ := Cond.instanceMethod_spec hinst
  obtain ⟨m8, methM', cM, hn8, hmethM', -, -, -, -, -, -, hsigM⟩ := Cond.codeWith_spec hcode
  cases Option.some.inj (hn8.symm.trans hnamed)
  cases hmethM.symm.trans hmethM'
  obtain ⟨c2, r2, m2, q1, q2, q3, q4, kP, hkP, hkPi⟩ := Cond.selects_spec hsel
  cases hcls.symm.trans q1
  cases (State.methodFound?_of_named hnamed hy).symm.trans q2
  cases hnamed.symm.trans q3
  have hselP : selectMethod e.platform s.vm cellB.cls mk = .method mk := by rw [Launch.admits_selectMethod X.admits]; exact q4
  obtain ⟨vm₁, X₁, hstep₁⟩ := X.invokevirtual hexec hown hlink hnamed hmethM hstM hkP hkPi hy (a := b) (cell := cellB) hcell
    (fun z h => by rw [h] at hobj; cases hobj) hselP hmethM habM hkP hkPi (g := g) hg (argsL := argsL) (rest := rest) (hlen _ hsigM) hstack hdg
  rcases hK m meth c ⟨T.setVm vm₁, locs, cells, slots⟩ { g with stack := rest } (.invokevirtual index) mk (Value.ref b :: argsL).toArray X₁ hg hsize hdg hW (X₁.named hnamed) (hpre vm₁ X₁.warmed) with ⟨v, B, X', hpost, hsteps⟩ | ⟨q, B, X', hpost, hsteps⟩
  · exact Or.inl ⟨v, vm₁, B, X₁.warmed, X', hpost, fun target h => hstep₁ _ fun acts => by rw [doInvoke_state]; exact hsteps.trans h⟩
  · exact Or.inr ⟨q, vm₁, B, X₁.warmed, X', hpost, hstep₁ _ fun acts => by rw [doInvoke_state]; exact hsteps⟩
theorem vx_callSX (X : Stand p l e R s m args below meth c T locs cells slots) (hexec : p.tables.exec = Jvm.exec) {own : String} {index : Nat} {y : MethodName} {bytes : ByteArray} {maxL : Nat} {ret : Option FieldType} {hh : List (Nat × Nat × Nat × Nat)}
    (hown : s.vm.findClass own = some m.cls) (hlink : (Cond.methodLink own index y).before args s = true) (hstat : (Cond.static y).before args s = true) (hinit : (Cond.initialized y.cls).before args s = true)
    (hcode : (Cond.codeWith y bytes maxL ret hh).before args s = true) (hy : y.cls ≠ "java/lang/invoke/MethodHandle" ∧ y.cls ≠ "java/lang/invoke/VarHandle")
    {W9 : Nat} {Pre : Pt → Array Value → Prop} {Post : Pt → Array Value → Option Value → Pt → Prop} {PostX : Pt → Array Value → Addr → Pt → Prop} (hK : vx_Back l R p e below s args y 3 W9 Pre Post PostX)
    {g : JFrame} (hg : g.method = m) (hsize : g.locals.size = c.maxLocals) {argsL rest : List Value} (hlen : ∀ sig, parseMethodDescriptor y.desc = some sig → argsL.length = sig.parameters.length)
    (hstack : g.stack = argsL.reverse ++ rest) (hW : 2 * g.monitorRoom + (rest.map fun v => v.category).sum ≤ W9) (hdg : decode c.code g.pc = .ok (.invokestatic index, 3))
    (hpre : ∀ vm₁, s.WarmedH vm₁ → Pre ⟨T.setVm vm₁, locs, cells, slots⟩ argsL.toArray) :
    (∃ (v : Option Value) (vm₁ : Vm) (B : Pt), s.WarmedH vm₁ ∧ Stand p l e R s m args below meth c B.U B.locs B.cells B.slots ∧ Post ⟨T.setVm vm₁, locs, cells, slots⟩ argsL.toArray v B ∧
      ∀ target, Steps p.tables e below (B.U.setTop { g with pc := g.pc + 3, stack := v.toList ++ rest }) target → Steps p.tables e below (T.setTop g) target) ∨
    (∃ (q : Addr) (vm₁ : Vm) (B : Pt), s.WarmedH vm₁ ∧ Stand p l e R s m args below meth c B.U B.locs B.cells B.slots ∧ PostX ⟨T.setVm vm₁, locs, cells, slots⟩ argsL.toArray q B ∧
      Steps p.tables e below (T.setTop g) ((B.U.setTop { g with stack := rest }).pushFrame (.throwing q))) := by
  obtain ⟨mk, methM, cM, hnamed, hmethM, -, -, -, -, -, -, hsigM⟩ := Cond.codeWith_spec hcode
  have hstatic : methM.isStatic = true := Cond.static_spec hnamed hmethM hstat
  obtain ⟨kP, hkP, -⟩ := className_of_methodNamed hnamed
  have hinitP : kP.init = .initialized := Cond.initialized_spec (findClass_of_methodNamed hnamed) hkP hinit
  obtain ⟨vm₁, X₁, hstep₁⟩ := X.invokestatic hexec hown hlink hnamed hmethM hstatic hkP hinitP hy (g := g) hg (argsL := argsL) (rest := rest) (hlen _ hsigM) hstack hdg
  rcases hK m meth c ⟨T.setVm vm₁, locs, cells, slots⟩ { g with stack := rest } (.invokestatic index) mk argsL.toArray X₁ hg hsize hdg hW (X₁.named hnamed) (hpre vm₁ X₁.warmed) with ⟨v, B, X', hpost, hsteps⟩ | ⟨q, B, X', hpost, hsteps⟩
  · exact Or.inl ⟨v, vm₁, B, X₁.warmed, X', hpost, fun target h => hstep₁ _ fun acts => by rw [doInvoke_state]; exact hsteps.trans h⟩
  · exact Or.inr ⟨q, vm₁, B, X₁.warmed, X', hpost, hstep₁ _ fun acts => by rw [doInvoke_state]; exact hsteps⟩
theorem vx_callVW (X : Stand p l e R s m args below meth c T locs cells slots) (hexec : p.tables.exec = Jvm.exec) {own C : String} {index : Nat} {y : MethodName} {bytes : ByteArray} {maxL : Nat} {ret : Option FieldType} {hh : List (Nat × Nat × Nat × Nat)}
    (hown : s.vm.findClass own = some m.cls) (hlink : (Cond.methodLink own index y).before args s = true) (hinst : (Cond.instanceMethod y).before args s = true) (hsel : (Cond.selects C y y).before args s = true)
    (hcode : (Cond.codeWith y bytes maxL ret hh).before args s = true) (hy : y.cls ≠ "java/lang/invoke/MethodHandle" ∧ y.cls ≠ "java/lang/invoke/VarHandle")
    {W9 : Nat} {Pre : Pt → Array Value → Prop} {Post : Pt → Array Value → Option Value → Pt → Prop} (hK : Back l R p e below s args y 3 W9 Pre Post)
    {b : Addr} {cellB : Cell} (hcell : T.heap[b]? = some cellB) (hobj : cellB.vm.isStatics = false) (hcls : s.vm.findClass C = some cellB.cls)
    {g : JFrame} (hg : g.method = m) (hsize : g.locals.size = c.maxLocals) {argsL rest : List Value} (hlen : ∀ sig, parseMethodDescriptor y.desc = some sig → argsL.length = sig.parameters.length)
    (hstack : g.stack = argsL.reverse ++ .ref b :: rest) (hW : 2 * g.monitorRoom + (rest.map fun v => v.category).sum ≤ W9) (hdg : decode c.code g.pc = .ok (.invokevirtual index, 3))
    (hpre : ∀ vm₁, s.WarmedH vm₁ → Pre ⟨T.setVm vm₁, locs, cells, slots⟩ (Value.ref b :: argsL).toArray) :
    ∃ (v : Option Value) (vm₁ : Vm) (B : Pt), s.WarmedH vm₁ ∧ Stand p l e R s m args below meth c B.U B.locs B.cells B.slots ∧ Post ⟨T.setVm vm₁, locs, cells, slots⟩ (Value.ref b :: argsL).toArray v B ∧
      ∀ target, Steps p.tables e below (B.U.setTop { g with pc := g.pc + 3, stack := v.toList ++ rest }) target → Steps p.tables e below (T.setTop g) target := by
  obtain ⟨mk, methM, hnamed, hmethM, hstM, habM⟩ := Cond.instanceMethod_spec hinst
  obtain ⟨m8, methM', cM, hn8, hmethM', -, -, -, -, -, -, hsigM⟩ := Cond.codeWith_spec hcode
  cases Option.some.inj (hn8.symm.trans hnamed)
  cases hmethM.symm.trans hmethM'
  obtain ⟨c2, r2, m2, q1, q2, q3, q4, kP, hkP, hkPi⟩ := Cond.selects_spec hsel
  cases hcls.symm.trans q1
  cases (State.methodFound?_of_named hnamed hy).symm.trans q2
  cases hnamed.symm.trans q3
  have hselP : selectMethod e.platform s.vm cellB.cls mk = .method mk := by rw [Launch.admits_selectMethod X.admits]; exact q4
  obtain ⟨vm₁, X₁, hstep₁⟩ := X.invokevirtual hexec hown hlink hnamed hmethM hstM hkP hkPi hy (a := b) (cell := cellB) hcell
    (fun z h => by rw [h] at hobj; cases hobj) hselP hmethM habM hkP hkPi (g := g) hg (argsL := argsL) (rest := rest) (hlen _ hsigM) hstack hdg
  obtain ⟨v, B, X', hpost, hsteps⟩ := hK m meth c ⟨T.setVm vm₁, locs, cells, slots⟩ { g with stack := rest } (.invokevirtual index) mk (Value.ref b :: argsL).toArray X₁ hg hsize hdg hW (X₁.named hnamed) (hpre vm₁ X₁.warmed)
  exact ⟨v, vm₁, B, X₁.warmed, X', hpost, fun target h => hstep₁ _ fun acts => by rw [doInvoke_state]; exact hsteps.trans h⟩
abbrev vx_CVW (R : Room) (s : State) (args : Array Value) (own C : String) (index : Nat) (y : MethodName) (bytes : ByteArray) (maxL : Nat) (ret : Option FieldType) (hh : List (Nat × Nat × Nat × Nat)) (ws : List Cond) (rm : Room) (mc ms n : Nat) : Prop :=
  (rm.cells = mc ∧ rm.slots = ms ∧ rm.frames + 1 ≤ R.frames ∧ 8 + (maxL + 11) + rm.locals ≤ R.locals ∧ (∀ w ∈ ws, ∀ (a' : Array Value) (U : State), s.WarmedH U.vm → w.before a' U = true) ∧ Cond.codeWith y bytes maxL ret hh ∈ ws) ∧
  (Cond.codeWith y bytes maxL ret hh).before args s = true ∧ (Cond.initialized y.cls).before args s = true ∧ (y.cls ≠ "java/lang/invoke/MethodHandle" ∧ y.cls ≠ "java/lang/invoke/VarHandle") ∧
  (∀ sig, parseMethodDescriptor y.desc = some sig → n = sig.parameters.length) ∧ (Cond.methodLink own index y).before args s = true ∧ (Cond.instanceMethod y).before args s = true ∧ (Cond.selects C y y).before args s = true
theorem vx_cwVW {own C : String} {index maxL mc ms : Nat} {y : MethodName} {bytes : ByteArray} {ret : Option FieldType} {hh : List (Nat × Nat × Nat × Nat)} {Ts ws ws' : List Cond} {rm : Room} (n : Nat) (ht : ∀ w ∈ Ts, w.before args s = true) (hT : GoodIn Ts (wsV own index C y ws)) (hw : ws = Cond.codeWith y bytes maxL ret hh :: ws') (hrc : rm.cells = mc) (hrs : rm.slots = ms)
    (hd : y.cls = C ∧ y.cls ≠ "java/lang/invoke/MethodHandle" ∧ y.cls ≠ "java/lang/invoke/VarHandle" ∧ (parseMethodDescriptor y.desc).map (fun d => d.parameters.length) = some n) (hR : rm.frames + 1 ≤ R.frames ∧ 8 + (maxL + 11) + rm.locals ≤ R.locals) :
    vx_CVW R s args own C index y bytes maxL ret hh ws rm mc ms n := by
  obtain ⟨hC, hd⟩ := hd
  subst hC
  have ok : ∀ w ∈ wsV own index y.cls y ws, w.before args s = true := fun w h => ht w (hT w h).1
  have hG : GoodIn Ts ws := fun w h => hT w (by unfold wsV; exact List.mem_append_right _ h)
  have hc : Cond.codeWith y bytes maxL ret hh ∈ ws := by rw [hw]; exact List.mem_cons_self
  refine ⟨⟨hrc, hrs, hR.1, hR.2, pay_in ht hG, hc⟩, ht _ (hG _ hc).1, ok _ (by simp [wsV]), ⟨hd.1, hd.2.1⟩, fun sig h => ?_, ok _ (by simp [wsV]), ok _ (by simp [wsV]), ok _ (by simp [wsV])⟩
  have h2 := hd.2.2
  rw [h] at h2
  exact (Option.some.inj h2).symm
theorem vx_runVW {y : MethodName} {bytes cc : ByteArray} {maxL nL mc ms n index : Nat} {ret : Option FieldType} {hh : List (Nat × Nat × Nat × Nat)} {ws : List Cond} {rm : Room} {Pc : Array Value → State → Prop} {Qc : Array Value → State → Outcome → State → Prop} {free : Addr → Prop} {Ts : List Cond} {own C : String} {b : Addr} {As rest : List Value} {g : JFrame}
    (S : CallFix p m c cc nL s args Ts own) (hM : Met l y ws rm Pc Qc mc ms free) (cw : vx_CVW R s args own C index y bytes maxL ret hh ws rm mc ms n) (hp : PreV s H C b Pc As)
    (hg : g.method = m) (hn : As.length = n) (hsize : g.locals.size = nL) (hstack : g.stack = As.reverse ++ .ref b :: rest) (hW : 2 * g.monitorRoom + (rest.map fun v => v.category).sum ≤ 8) (hdg : decode cc g.pc = .ok (.invokevirtual index, 3)) (hf : cells + mc ≤ R.cells ∧ slots + ms ≤ R.slots) :
    va_Run p l e R s m args below meth c H locs cells slots mc ms g rest (Qc (Value.ref b :: As).toArray) free := by
  obtain ⟨⟨hrc, hrs, hfr, hlo, hws, hcw⟩, hcode, hini, hy, hlen, hl, hin, hse⟩ := cw
  have hK : Back l R p e below s args y 3 8 (PreOf R mc ms Pc) (PostOf Qc mc ms free) := va_backW (hh := hh) (bytes := bytes) (maxL := maxL) (ret := ret) hM hp.1 hrc hrs hfr hlo hws hcw (fun a' U hW => word_at hW (Or.inl (by first | rfl | simp [Cond.onTables, Cond.keeps, Cond.steady])) hini)
  obtain ⟨hx, hb, hml, ho, -⟩ := S
  obtain ⟨-, ⟨cellB, hcB, hoB, hclB⟩, hPc⟩ := hp
  intro T hT X
  obtain ⟨v, vm₁, ⟨U', l2, c2, s2⟩, hW₁, X', ⟨g', mk, t, L, e1, e2, hq, h1, hL, h2, h3⟩, st⟩ := vx_callVW X hx (C := C) (hh := hh) (bytes := bytes) (maxL := maxL) (ret := ret) ho hl hin hse hcode hy hK (by rw [hT]; exact hcB) hoB hclB hg (hsize.trans hml.symm) (argsL := As) (rest := rest) (fun sig h => hn.trans (hlen sig h)) hstack hW (by rw [hb]; exact hdg)
    (fun vm₁ hW₁ => ⟨hf.1, hf.2, hPc (T.setVm vm₁) hT hW₁⟩)
  dsimp only [Pt.U, Pt.locs, Pt.cells, Pt.slots] at X' e1 e2 h1 h2 h3 st
  subst h1; subst h2; subst h3
  exact ⟨v, (T.setVm vm₁).calling g' mk (Value.ref b :: As).toArray, t, U', L, hT, X', hL, e1, e2, hq, st⟩
section
variable {y : MethodName} {bytes cc : ByteArray} {maxL nL mc ms n index : Nat} {ret : Option FieldType} {ws : List Cond} {rm : Room} {Pc : Array Value → State → Prop} {Qc : Array Value → State → Outcome → State → Prop} {XC : String → State → State → Prop} {free : Addr → Prop} {Ts : List Cond} {own C : String} {b : Addr} {As rest : List Value} {g : JFrame}
theorem vx_runVX {hh : List (Nat × Nat × Nat × Nat)} (S : CallFix p m c cc nL s args Ts own) (hM : vx_Met l y ws rm Pc Qc XC mc ms free) (cw : vx_CVW R s args own C index y bytes maxL ret hh ws rm mc ms n) (hp : PreV s H C b Pc As)
    (hg : g.method = m) (hn : As.length = n) (hsize : g.locals.size = nL) (hstack : g.stack = As.reverse ++ .ref b :: rest) (hW : 2 * g.monitorRoom + (rest.map fun v => v.category).sum ≤ 8) (hdg : decode cc g.pc = .ok (.invokevirtual index, 3)) (hf : cells + mc ≤ R.cells ∧ slots + ms ≤ R.slots) :
    vx_Run p l e R s m args below meth c H locs cells slots mc ms g rest (Qc (Value.ref b :: As).toArray) XC free := by
  obtain ⟨⟨hrc, hrs, hfr, hlo, hws, hcw⟩, hcode, hini, hy, hlen, hl, hin, hse⟩ := cw
  have hK : vx_Back l R p e below s args y 3 8 (PreOf R mc ms Pc) (PostOf Qc mc ms free) (vx_Post XC mc ms free) := vx_backW (hh := hh) (bytes := bytes) (maxL := maxL) (ret := ret) hM hp.1 hrc hrs hfr hlo hws hcw (fun a' U hW => word_at hW (Or.inl (by first | rfl | simp [Cond.onTables, Cond.keeps, Cond.steady])) hini)
  obtain ⟨hx, hb, hml, ho, -⟩ := S
  obtain ⟨-, ⟨cellB, hcB, hoB, hclB⟩, hPc⟩ := hp
  intro T hT X
  rcases vx_callVX X hx (C := C) (hh := hh) (bytes := bytes) (maxL := maxL) (ret := ret) ho hl hin hse hcode hy hK (by rw [hT]; exact hcB) hoB hclB hg (hsize.trans hml.symm) (argsL := As) (rest := rest) (fun sig h => hn.trans (hlen sig h)) hstack hW (by rw [hb]; exact hdg)
    (fun vm₁ hW₁ => ⟨hf.1, hf.2, hPc (T.setVm vm₁) hT hW₁⟩) with ⟨v, vm₁, ⟨U', l2, c2, s2⟩, hW₁, X', ⟨g', mk, t, L, e1, e2, hq, h1, hL, h2, h3⟩, st⟩ | ⟨q, vm₁, ⟨U', l2, c2, s2⟩, hW₁, X', ⟨g', mk, t, L, E, ce, e1, e2, hq, hce, hcv, hcl, h1, hL, h2, h3⟩, st⟩
  · dsimp only [Pt.U, Pt.locs, Pt.cells, Pt.slots] at X' e1 e2 h1 h2 h3 st
    subst h1; subst h2; subst h3
    exact Or.inl ⟨v, (T.setVm vm₁).calling g' mk (Value.ref b :: As).toArray, t, U', L, hT, X', hL, e1, e2, hq, st⟩
  · dsimp only [Pt.U, Pt.locs, Pt.cells, Pt.slots] at X' e1 e2 h1 h2 h3 st hcl
    subst h1; subst h2; subst h3
    exact Or.inr ⟨q, (T.setVm vm₁).calling g' mk (Value.ref b :: As).toArray, t, U', L, E, ce, hT, X', hL, e1, e2, hq, hce, hcv, vx_cls hW₁ hcl, st⟩
theorem vx_runSX {hh : List (Nat × Nat × Nat × Nat)} (S : CallFix p m c cc nL s args Ts own) (hM : vx_Met l y ws rm Pc Qc XC mc ms free) (cw : vx_CSW R s args own index y bytes maxL ret hh ws rm mc ms n) (hp : PreS s H Pc As)
    (hg : g.method = m) (hn : As.length = n) (hsize : g.locals.size = nL) (hstack : g.stack = As.reverse ++ rest) (hW : 2 * g.monitorRoom + (rest.map fun v => v.category).sum ≤ 8) (hdg : decode cc g.pc = .ok (.invokestatic index, 3)) (hf : cells + mc ≤ R.cells ∧ slots + ms ≤ R.slots) :
    vx_Run p l e R s m args below meth c H locs cells slots mc ms g rest (Qc As.toArray) XC free := by
  obtain ⟨⟨hrc, hrs, hfr, hlo, hws, hcw⟩, hcode, hini, hy, hlen, hl, hstt⟩ := cw
  have hK : vx_Back l R p e below s args y 3 8 (PreOf R mc ms Pc) (PostOf Qc mc ms free) (vx_Post XC mc ms free) := vx_backW (hh := hh) (bytes := bytes) (maxL := maxL) (ret := ret) hM hp.1 hrc hrs hfr hlo hws hcw (fun a' U hW => word_at hW (Or.inl (by first | rfl | simp [Cond.onTables, Cond.keeps, Cond.steady])) hini)
  obtain ⟨hx, hb, hml, ho, -⟩ := S
  intro T hT X
  rcases vx_callSX X hx (hh := hh) (bytes := bytes) (maxL := maxL) (ret := ret) ho hl hstt hini hcode hy hK hg (hsize.trans hml.symm) (argsL := As) (rest := rest) (fun sig h => hn.trans (hlen sig h)) hstack hW (by rw [hb]; exact hdg)
    (fun vm₁ hW₁ => ⟨hf.1, hf.2, hp.2 (T.setVm vm₁) hT hW₁⟩) with ⟨v, vm₁, ⟨U', l2, c2, s2⟩, hW₁, X', ⟨g', mk, t, L, e1, e2, hq, h1, hL, h2, h3⟩, st⟩ | ⟨q, vm₁, ⟨U', l2, c2, s2⟩, hW₁, X', ⟨g', mk, t, L, E, ce, e1, e2, hq, hce, hcv, hcl, h1, hL, h2, h3⟩, st⟩
  · dsimp only [Pt.U, Pt.locs, Pt.cells, Pt.slots] at X' e1 e2 h1 h2 h3 st
    subst h1; subst h2; subst h3
    exact Or.inl ⟨v, (T.setVm vm₁).calling g' mk As.toArray, t, U', L, hT, X', hL, e1, e2, hq, st⟩
  · dsimp only [Pt.U, Pt.locs, Pt.cells, Pt.slots] at X' e1 e2 h1 h2 h3 st hcl
    subst h1; subst h2; subst h3
    exact Or.inr ⟨q, (T.setVm vm₁).calling g' mk As.toArray, t, U', L, E, ce, hT, X', hL, e1, e2, hq, hce, hcv, vx_cls hW₁ hcl, st⟩
end
end VXH
theorem vx_ofWH {l : Launch} {y : MethodName} {ws ws' : List Cond} {rm : Room} {Pc : Array Value → State → Prop} {Qc : Array Value → State → Outcome → State → Prop} {XC : String → State → State → Prop} {mc ms : Nat} {free : Addr → Prop} {cc : ByteArray} {maxL : Nat} {ret : Option FieldType} {hh : List (Nat × Nat × Nat × Nat)}
    (hy : plainName y.cls = true) (hw : ws = Cond.codeWith y cc maxL ret hh :: ws')
    (body : ∀ p e s m args below meth c s₁, BodyLoose p l y (headSpec ws rm) cc maxL ret e s m args below meth c s₁ → c.maxLocals = maxL → Pc args s →
      W p l e (headSpec ws rm).room s m args below meth c s.heap [] 0 0 (vx_MQ below Qc XC args s mc ms free) (entryFrame m args maxL)) : vx_Met l y ws rm Pc Qc XC mc ms free := by
  refine MetFree.of_bodyS (code := cc) (maxLocals := maxL) (ret := ret) hy ?_ ?_
  · intro args s m h hn
    obtain ⟨m9, meth, c, hn9, h1, h2, h3, h4, -, h5, h6, -⟩ := Cond.codeWith_spec (atoms_spec (ws := ws) h _ (by rw [hw]; exact List.mem_cons_self))
    cases hn.symm.trans hn9
    exact ⟨meth, c, h1, h2, h3, h4, h5, h6⟩
  · intro p e s m args below meth c s₁ B hml hP _
    have hh0 : s₁.heap = s.heap := by rw [B.state]; rfl
    obtain ⟨t, a1, o, b1, b2, b3⟩ := body p e s m args below meth c s₁ B hml hP s₁ hh0 (Stand.of_body B)
    exact ⟨t, o, a1, b1, b2, b3⟩
/-! ===== END ===== -/
end
section
-- ===== PART A: goes FIRST, ahead of the names: the tables' words, and 'selects' of the private methods out of them =====
/-- a private method of a class that the tables say can be made, by its rows of tables_1 -/
def lw_okq (q : MethodName × Nat) : Prop := (q.1.cls ≠ "java/lang/invoke/MethodHandle" ∧ q.1.cls ≠ "java/lang/invoke/VarHandle") ∧ Cond.instantiable q.1.cls q.2 ∈ tables_1 ∧ Cond.privateMethod q.1 ∈ tables_1 ∧ Cond.instanceMethod q.1 ∈ tables_1
theorem lw_p0 : lw_okq (⟨"Stowfinish", "isReady", "()Z"⟩, 15) := ⟨⟨by decide +kernel, by decide +kernel⟩, List.mem_of_getElem? (i := 20) (by decide +kernel), List.mem_of_getElem? (i := 207) (by decide +kernel), List.mem_of_getElem? (i := 208) (by decide +kernel)⟩
theorem lw_p1 : lw_okq (⟨"java/lang/Throwable", "fillInStackTrace", "(I)Ljava/lang/Throwable;"⟩, 6) := ⟨⟨by decide +kernel, by decide +kernel⟩, List.mem_of_getElem? (i := 298) (by decide +kernel), List.mem_of_getElem? (i := 296) (by decide +kernel), List.mem_of_getElem? (i := 297) (by decide +kernel)⟩
theorem lw_p2 : lw_okq (⟨"Stowfinish", "hasSpaceForBlock", "()Z"⟩, 15) := ⟨⟨by decide +kernel, by decide +kernel⟩, List.mem_of_getElem? (i := 20) (by decide +kernel), List.mem_of_getElem? (i := 375) (by decide +kernel), List.mem_of_getElem? (i := 376) (by decide +kernel)⟩
theorem lw_p3 : lw_okq (⟨"Stowfinish", "keep", "(LStowfinish$Block;)I"⟩, 15) := ⟨⟨by decide +kernel, by decide +kernel⟩, List.mem_of_getElem? (i := 20) (by decide +kernel), List.mem_of_getElem? (i := 448) (by decide +kernel), List.mem_of_getElem? (i := 449) (by decide +kernel)⟩
theorem lw_p4 : lw_okq (⟨"Stowfinish", "blockOf", "(I)LStowfinish$Block;"⟩, 15) := ⟨⟨by decide +kernel, by decide +kernel⟩, List.mem_of_getElem? (i := 20) (by decide +kernel), List.mem_of_getElem? (i := 459) (by decide +kernel), List.mem_of_getElem? (i := 460) (by decide +kernel)⟩
theorem lw_p5 : lw_okq (⟨"Stowfinish", "canJoin", "(LStowfinish$Block;LStowfinish$Block;)Z"⟩, 15) := ⟨⟨by decide +kernel, by decide +kernel⟩, List.mem_of_getElem? (i := 20) (by decide +kernel), List.mem_of_getElem? (i := 468) (by decide +kernel), List.mem_of_getElem? (i := 469) (by decide +kernel)⟩
theorem lw_p6 : lw_okq (⟨"Stowfinish", "hasSpaceForWelds", "(I)Z"⟩, 15) := ⟨⟨by decide +kernel, by decide +kernel⟩, List.mem_of_getElem? (i := 20) (by decide +kernel), List.mem_of_getElem? (i := 476) (by decide +kernel), List.mem_of_getElem? (i := 477) (by decide +kernel)⟩
theorem lw_p7 : lw_okq (⟨"Stowfinish", "makeWeld", "(LStowfinish$Block;II)V"⟩, 15) := ⟨⟨by decide +kernel, by decide +kernel⟩, List.mem_of_getElem? (i := 20) (by decide +kernel), List.mem_of_getElem? (i := 484) (by decide +kernel), List.mem_of_getElem? (i := 485) (by decide +kernel)⟩
theorem lw_p8 : lw_okq (⟨"Stowfinish", "weldNow", "(LStowfinish$Weld;I)V"⟩, 15) := ⟨⟨by decide +kernel, by decide +kernel⟩, List.mem_of_getElem? (i := 20) (by decide +kernel), List.mem_of_getElem? (i := 514) (by decide +kernel), List.mem_of_getElem? (i := 515) (by decide +kernel)⟩
theorem lw_p9 : lw_okq (⟨"Stowfinish", "spoilAt", "(II)V"⟩, 15) := ⟨⟨by decide +kernel, by decide +kernel⟩, List.mem_of_getElem? (i := 20) (by decide +kernel), List.mem_of_getElem? (i := 523) (by decide +kernel), List.mem_of_getElem? (i := 524) (by decide +kernel)⟩
theorem lw_p10 : lw_okq (⟨"Stowfinish", "neighbourAhead", "(LStowfinish$Block;)LStowfinish$Block;"⟩, 15) := ⟨⟨by decide +kernel, by decide +kernel⟩, List.mem_of_getElem? (i := 20) (by decide +kernel), List.mem_of_getElem? (i := 553) (by decide +kernel), List.mem_of_getElem? (i := 554) (by decide +kernel)⟩
theorem lw_p11 : lw_okq (⟨"Stowfinish", "neighbourBehind", "(LStowfinish$Block;)LStowfinish$Block;"⟩, 15) := ⟨⟨by decide +kernel, by decide +kernel⟩, List.mem_of_getElem? (i := 20) (by decide +kernel), List.mem_of_getElem? (i := 562) (by decide +kernel), List.mem_of_getElem? (i := 563) (by decide +kernel)⟩
theorem lw_p12 : lw_okq (⟨"Stowfinish", "reasonAgainst", "(LStowfinish$Block;)I"⟩, 15) := ⟨⟨by decide +kernel, by decide +kernel⟩, List.mem_of_getElem? (i := 20) (by decide +kernel), List.mem_of_getElem? (i := 566) (by decide +kernel), List.mem_of_getElem? (i := 567) (by decide +kernel)⟩
theorem lw_p13 : lw_okq (⟨"Stowfinish", "isSomeFilled", "(LStowfinish$Block;)Z"⟩, 15) := ⟨⟨by decide +kernel, by decide +kernel⟩, List.mem_of_getElem? (i := 20) (by decide +kernel), List.mem_of_getElem? (i := 570) (by decide +kernel), List.mem_of_getElem? (i := 571) (by decide +kernel)⟩
theorem lw_p14 : lw_okq (⟨"Stowfinish", "isSomeBelowEmpty", "(LStowfinish$Block;)Z"⟩, 15) := ⟨⟨by decide +kernel, by decide +kernel⟩, List.mem_of_getElem? (i := 20) (by decide +kernel), List.mem_of_getElem? (i := 574) (by decide +kernel), List.mem_of_getElem? (i := 575) (by decide +kernel)⟩
theorem lw_p15 : lw_okq (⟨"Stowfinish", "liftOver", "(LStowfinish$Block;)I"⟩, 15) := ⟨⟨by decide +kernel, by decide +kernel⟩, List.mem_of_getElem? (i := 20) (by decide +kernel), List.mem_of_getElem? (i := 578) (by decide +kernel), List.mem_of_getElem? (i := 579) (by decide +kernel)⟩
def lw_privs_1 : List (MethodName × Nat) := [(⟨"Stowfinish", "isReady", "()Z"⟩, 15), (⟨"java/lang/Throwable", "fillInStackTrace", "(I)Ljava/lang/Throwable;"⟩, 6), (⟨"Stowfinish", "hasSpaceForBlock", "()Z"⟩, 15), (⟨"Stowfinish", "keep", "(LStowfinish$Block;)I"⟩, 15), (⟨"Stowfinish", "blockOf", "(I)LStowfinish$Block;"⟩, 15), (⟨"Stowfinish", "canJoin", "(LStowfinish$Block;LStowfinish$Block;)Z"⟩, 15), (⟨"Stowfinish", "hasSpaceForWelds", "(I)Z"⟩, 15), (⟨"Stowfinish", "makeWeld", "(LStowfinish$Block;II)V"⟩, 15), (⟨"Stowfinish", "weldNow", "(LStowfinish$Weld;I)V"⟩, 15), (⟨"Stowfinish", "spoilAt", "(II)V"⟩, 15), (⟨"Stowfinish", "neighbourAhead", "(LStowfinish$Block;)LStowfinish$Block;"⟩, 15), (⟨"Stowfinish", "neighbourBehind", "(LStowfinish$Block;)LStowfinish$Block;"⟩, 15), (⟨"Stowfinish", "reasonAgainst", "(LStowfinish$Block;)I"⟩, 15), (⟨"Stowfinish", "isSomeFilled", "(LStowfinish$Block;)Z"⟩, 15), (⟨"Stowfinish", "isSomeBelowEmpty", "(LStowfinish$Block;)Z"⟩, 15), (⟨"Stowfinish", "liftOver", "(LStowfinish$Block;)I"⟩, 15)]
theorem lw_r1 : ∀ q ∈ lw_privs_1, lw_okq q := List.forall_mem_cons.mpr ⟨lw_p0, List.forall_mem_cons.mpr ⟨lw_p1, List.forall_mem_cons.mpr ⟨lw_p2, List.forall_mem_cons.mpr ⟨lw_p3, List.forall_mem_cons.mpr ⟨lw_p4, List.forall_mem_cons.mpr ⟨lw_p5, List.forall_mem_cons.mpr ⟨lw_p6, List.forall_mem_cons.mpr ⟨lw_p7, List.forall_mem_cons.mpr ⟨lw_p8, List.forall_mem_cons.mpr ⟨lw_p9, List.forall_mem_cons.mpr ⟨lw_p10, List.forall_mem_cons.mpr ⟨lw_p11, List.forall_mem_cons.mpr ⟨lw_p12, List.forall_mem_cons.mpr ⟨lw_p13, List.forall_mem_cons.mpr ⟨lw_p14, List.forall_mem_cons.mpr ⟨lw_p15, fun _ h => absurd h List.not_mem_nil⟩⟩⟩⟩⟩⟩⟩⟩⟩⟩⟩⟩⟩⟩⟩⟩
theorem lw_p16 : lw_okq (⟨"Stowfinish", "isMisfit", "(LStowfinish$Block;)Z"⟩, 15) := ⟨⟨by decide +kernel, by decide +kernel⟩, List.mem_of_getElem? (i := 20) (by decide +kernel), List.mem_of_getElem? (i := 586) (by decide +kernel), List.mem_of_getElem? (i := 587) (by decide +kernel)⟩
theorem lw_p17 : lw_okq (⟨"Stowfinish", "weldOf", "(I)LStowfinish$Weld;"⟩, 15) := ⟨⟨by decide +kernel, by decide +kernel⟩, List.mem_of_getElem? (i := 20) (by decide +kernel), List.mem_of_getElem? (i := 665) (by decide +kernel), List.mem_of_getElem? (i := 666) (by decide +kernel)⟩
theorem lw_p18 : lw_okq (⟨"Stowfinish", "roomNextTo", "(LStowfinish$Room;Z)LStowfinish$Room;"⟩, 15) := ⟨⟨by decide +kernel, by decide +kernel⟩, List.mem_of_getElem? (i := 20) (by decide +kernel), List.mem_of_getElem? (i := 692) (by decide +kernel), List.mem_of_getElem? (i := 693) (by decide +kernel)⟩
theorem lw_p19 : lw_okq (⟨"Stowfinish$Ways", "measure", "(LStowfinish$Room;)V"⟩, 1) := ⟨⟨by decide +kernel, by decide +kernel⟩, List.mem_of_getElem? (i := 54) (by decide +kernel), List.mem_of_getElem? (i := 733) (by decide +kernel), List.mem_of_getElem? (i := 734) (by decide +kernel)⟩
theorem lw_p20 : lw_okq (⟨"Stowfinish$Ways", "spreadAll", "(I)Z"⟩, 1) := ⟨⟨by decide +kernel, by decide +kernel⟩, List.mem_of_getElem? (i := 54) (by decide +kernel), List.mem_of_getElem? (i := 741) (by decide +kernel), List.mem_of_getElem? (i := 742) (by decide +kernel)⟩
theorem lw_p21 : lw_okq (⟨"Stowfinish$Ways", "spread", "(LStowfinish$Room;)Z"⟩, 1) := ⟨⟨by decide +kernel, by decide +kernel⟩, List.mem_of_getElem? (i := 54) (by decide +kernel), List.mem_of_getElem? (i := 745) (by decide +kernel), List.mem_of_getElem? (i := 746) (by decide +kernel)⟩
theorem lw_p22 : lw_okq (⟨"Stowfinish$Ways", "through", "(LStowfinish$Room;I)LStowfinish$Room;"⟩, 1) := ⟨⟨by decide +kernel, by decide +kernel⟩, List.mem_of_getElem? (i := 54) (by decide +kernel), List.mem_of_getElem? (i := 751) (by decide +kernel), List.mem_of_getElem? (i := 752) (by decide +kernel)⟩
theorem lw_p23 : lw_okq (⟨"Stowfinish$Ways", "lowestNearer", "(LStowfinish$Room;)LStowfinish$Room;"⟩, 1) := ⟨⟨by decide +kernel, by decide +kernel⟩, List.mem_of_getElem? (i := 54) (by decide +kernel), List.mem_of_getElem? (i := 758) (by decide +kernel), List.mem_of_getElem? (i := 759) (by decide +kernel)⟩
theorem lw_p24 : lw_okq (⟨"Stowfinish", "runThrough", "([I)V"⟩, 15) := ⟨⟨by decide +kernel, by decide +kernel⟩, List.mem_of_getElem? (i := 20) (by decide +kernel), List.mem_of_getElem? (i := 773) (by decide +kernel), List.mem_of_getElem? (i := 774) (by decide +kernel)⟩
theorem lw_p25 : lw_okq (⟨"StowfinishModel", "fails", "(I)Z"⟩, 35) := ⟨⟨by decide +kernel, by decide +kernel⟩, List.mem_of_getElem? (i := 843) (by decide +kernel), List.mem_of_getElem? (i := 967) (by decide +kernel), List.mem_of_getElem? (i := 968) (by decide +kernel)⟩
theorem lw_p26 : lw_okq (⟨"StowfinishModel", "adds", "(IIIIII)I"⟩, 35) := ⟨⟨by decide +kernel, by decide +kernel⟩, List.mem_of_getElem? (i := 843) (by decide +kernel), List.mem_of_getElem? (i := 996) (by decide +kernel), List.mem_of_getElem? (i := 997) (by decide +kernel)⟩
theorem lw_p27 : lw_okq (⟨"StowfinishModel", "isBlock", "(I)Z"⟩, 35) := ⟨⟨by decide +kernel, by decide +kernel⟩, List.mem_of_getElem? (i := 843) (by decide +kernel), List.mem_of_getElem? (i := 1004) (by decide +kernel), List.mem_of_getElem? (i := 1005) (by decide +kernel)⟩
theorem lw_p28 : lw_okq (⟨"StowfinishModel", "canJoin", "(II)Z"⟩, 35) := ⟨⟨by decide +kernel, by decide +kernel⟩, List.mem_of_getElem? (i := 843) (by decide +kernel), List.mem_of_getElem? (i := 1008) (by decide +kernel), List.mem_of_getElem? (i := 1009) (by decide +kernel)⟩
theorem lw_p29 : lw_okq (⟨"StowfinishModel", "makes", "(IIII)V"⟩, 35) := ⟨⟨by decide +kernel, by decide +kernel⟩, List.mem_of_getElem? (i := 843) (by decide +kernel), List.mem_of_getElem? (i := 1012) (by decide +kernel), List.mem_of_getElem? (i := 1013) (by decide +kernel)⟩
theorem lw_p30 : lw_okq (⟨"StowfinishModel", "draws", "(II)V"⟩, 35) := ⟨⟨by decide +kernel, by decide +kernel⟩, List.mem_of_getElem? (i := 843) (by decide +kernel), List.mem_of_getElem? (i := 1016) (by decide +kernel), List.mem_of_getElem? (i := 1017) (by decide +kernel)⟩
theorem lw_p31 : lw_okq (⟨"StowfinishModel", "blockAt", "(II)I"⟩, 35) := ⟨⟨by decide +kernel, by decide +kernel⟩, List.mem_of_getElem? (i := 843) (by decide +kernel), List.mem_of_getElem? (i := 1025) (by decide +kernel), List.mem_of_getElem? (i := 1026) (by decide +kernel)⟩
def lw_privs_2 : List (MethodName × Nat) := [(⟨"Stowfinish", "isMisfit", "(LStowfinish$Block;)Z"⟩, 15), (⟨"Stowfinish", "weldOf", "(I)LStowfinish$Weld;"⟩, 15), (⟨"Stowfinish", "roomNextTo", "(LStowfinish$Room;Z)LStowfinish$Room;"⟩, 15), (⟨"Stowfinish$Ways", "measure", "(LStowfinish$Room;)V"⟩, 1), (⟨"Stowfinish$Ways", "spreadAll", "(I)Z"⟩, 1), (⟨"Stowfinish$Ways", "spread", "(LStowfinish$Room;)Z"⟩, 1), (⟨"Stowfinish$Ways", "through", "(LStowfinish$Room;I)LStowfinish$Room;"⟩, 1), (⟨"Stowfinish$Ways", "lowestNearer", "(LStowfinish$Room;)LStowfinish$Room;"⟩, 1), (⟨"Stowfinish", "runThrough", "([I)V"⟩, 15), (⟨"StowfinishModel", "fails", "(I)Z"⟩, 35), (⟨"StowfinishModel", "adds", "(IIIIII)I"⟩, 35), (⟨"StowfinishModel", "isBlock", "(I)Z"⟩, 35), (⟨"StowfinishModel", "canJoin", "(II)Z"⟩, 35), (⟨"StowfinishModel", "makes", "(IIII)V"⟩, 35), (⟨"StowfinishModel", "draws", "(II)V"⟩, 35), (⟨"StowfinishModel", "blockAt", "(II)I"⟩, 35)]
theorem lw_r2 : ∀ q ∈ lw_privs_2, lw_okq q := List.forall_mem_cons.mpr ⟨lw_p16, List.forall_mem_cons.mpr ⟨lw_p17, List.forall_mem_cons.mpr ⟨lw_p18, List.forall_mem_cons.mpr ⟨lw_p19, List.forall_mem_cons.mpr ⟨lw_p20, List.forall_mem_cons.mpr ⟨lw_p21, List.forall_mem_cons.mpr ⟨lw_p22, List.forall_mem_cons.mpr ⟨lw_p23, List.forall_mem_cons.mpr ⟨lw_p24, List.forall_mem_cons.mpr ⟨lw_p25, List.forall_mem_cons.mpr ⟨lw_p26, List.forall_mem_cons.mpr ⟨lw_p27, List.forall_mem_cons.mpr ⟨lw_p28, List.forall_mem_cons.mpr ⟨lw_p29, List.forall_mem_cons.mpr ⟨lw_p30, List.forall_mem_cons.mpr ⟨lw_p31, fun _ h => absurd h List.not_mem_nil⟩⟩⟩⟩⟩⟩⟩⟩⟩⟩⟩⟩⟩⟩⟩⟩
theorem lw_p32 : lw_okq (⟨"StowfinishModel", "reason", "(I)I"⟩, 35) := ⟨⟨by decide +kernel, by decide +kernel⟩, List.mem_of_getElem? (i := 843) (by decide +kernel), List.mem_of_getElem? (i := 1029) (by decide +kernel), List.mem_of_getElem? (i := 1030) (by decide +kernel)⟩
theorem lw_p33 : lw_okq (⟨"StowfinishModel", "space", "(II)I"⟩, 35) := ⟨⟨by decide +kernel, by decide +kernel⟩, List.mem_of_getElem? (i := 843) (by decide +kernel), List.mem_of_getElem? (i := 1033) (by decide +kernel), List.mem_of_getElem? (i := 1034) (by decide +kernel)⟩
theorem lw_p34 : lw_okq (⟨"StowfinishModel", "endOf", "(I)I"⟩, 35) := ⟨⟨by decide +kernel, by decide +kernel⟩, List.mem_of_getElem? (i := 843) (by decide +kernel), List.mem_of_getElem? (i := 1037) (by decide +kernel), List.mem_of_getElem? (i := 1038) (by decide +kernel)⟩
theorem lw_p35 : lw_okq (⟨"StowfinishModel", "spoils", "(II)V"⟩, 35) := ⟨⟨by decide +kernel, by decide +kernel⟩, List.mem_of_getElem? (i := 843) (by decide +kernel), List.mem_of_getElem? (i := 1041) (by decide +kernel), List.mem_of_getElem? (i := 1042) (by decide +kernel)⟩
theorem lw_p36 : lw_okq (⟨"StowfinishModel", "whole", "(I)I"⟩, 35) := ⟨⟨by decide +kernel, by decide +kernel⟩, List.mem_of_getElem? (i := 843) (by decide +kernel), List.mem_of_getElem? (i := 1049) (by decide +kernel), List.mem_of_getElem? (i := 1050) (by decide +kernel)⟩
theorem lw_p37 : lw_okq (⟨"StowfinishModel", "isWeld", "(I)Z"⟩, 35) := ⟨⟨by decide +kernel, by decide +kernel⟩, List.mem_of_getElem? (i := 843) (by decide +kernel), List.mem_of_getElem? (i := 1057) (by decide +kernel), List.mem_of_getElem? (i := 1058) (by decide +kernel)⟩
theorem lw_p38 : lw_okq (⟨"StowfinishModel", "isScrapped", "(I)Z"⟩, 35) := ⟨⟨by decide +kernel, by decide +kernel⟩, List.mem_of_getElem? (i := 843) (by decide +kernel), List.mem_of_getElem? (i := 1061) (by decide +kernel), List.mem_of_getElem? (i := 1062) (by decide +kernel)⟩
theorem lw_p39 : lw_okq (⟨"StowfinishModel", "stands", "(I)Z"⟩, 35) := ⟨⟨by decide +kernel, by decide +kernel⟩, List.mem_of_getElem? (i := 843) (by decide +kernel), List.mem_of_getElem? (i := 1069) (by decide +kernel), List.mem_of_getElem? (i := 1070) (by decide +kernel)⟩
theorem lw_p40 : lw_okq (⟨"StowfinishModel", "isRoom", "(I)Z"⟩, 35) := ⟨⟨by decide +kernel, by decide +kernel⟩, List.mem_of_getElem? (i := 843) (by decide +kernel), List.mem_of_getElem? (i := 1077) (by decide +kernel), List.mem_of_getElem? (i := 1078) (by decide +kernel)⟩
theorem lw_p41 : lw_okq (⟨"StowfinishModel", "ways", "(I)V"⟩, 35) := ⟨⟨by decide +kernel, by decide +kernel⟩, List.mem_of_getElem? (i := 843) (by decide +kernel), List.mem_of_getElem? (i := 1093) (by decide +kernel), List.mem_of_getElem? (i := 1094) (by decide +kernel)⟩
theorem lw_p42 : lw_okq (⟨"StowfinishModel", "beyond", "(II)I"⟩, 35) := ⟨⟨by decide +kernel, by decide +kernel⟩, List.mem_of_getElem? (i := 843) (by decide +kernel), List.mem_of_getElem? (i := 1097) (by decide +kernel), List.mem_of_getElem? (i := 1098) (by decide +kernel)⟩
theorem lw_p43 : lw_okq (⟨"StowfinishModel", "nearer", "(I)I"⟩, 35) := ⟨⟨by decide +kernel, by decide +kernel⟩, List.mem_of_getElem? (i := 843) (by decide +kernel), List.mem_of_getElem? (i := 1101) (by decide +kernel), List.mem_of_getElem? (i := 1102) (by decide +kernel)⟩
theorem lw_p44 : lw_okq (⟨"StowfinishModel", "canLaunch", "(I)Z"⟩, 35) := ⟨⟨by decide +kernel, by decide +kernel⟩, List.mem_of_getElem? (i := 843) (by decide +kernel), List.mem_of_getElem? (i := 1109) (by decide +kernel), List.mem_of_getElem? (i := 1110) (by decide +kernel)⟩
theorem lw_p45 : lw_okq (⟨"StowfinishModel", "isWhole", "()Z"⟩, 35) := ⟨⟨by decide +kernel, by decide +kernel⟩, List.mem_of_getElem? (i := 843) (by decide +kernel), List.mem_of_getElem? (i := 1113) (by decide +kernel), List.mem_of_getElem? (i := 1114) (by decide +kernel)⟩
theorem lw_p46 : lw_okq (⟨"StowfinishModel", "greater", "()I"⟩, 35) := ⟨⟨by decide +kernel, by decide +kernel⟩, List.mem_of_getElem? (i := 843) (by decide +kernel), List.mem_of_getElem? (i := 1117) (by decide +kernel), List.mem_of_getElem? (i := 1118) (by decide +kernel)⟩
theorem lw_p47 : lw_okq (⟨"StowfinishModel", "draughtOf", "(Z)I"⟩, 35) := ⟨⟨by decide +kernel, by decide +kernel⟩, List.mem_of_getElem? (i := 843) (by decide +kernel), List.mem_of_getElem? (i := 1121) (by decide +kernel), List.mem_of_getElem? (i := 1122) (by decide +kernel)⟩
def lw_privs_3 : List (MethodName × Nat) := [(⟨"StowfinishModel", "reason", "(I)I"⟩, 35), (⟨"StowfinishModel", "space", "(II)I"⟩, 35), (⟨"StowfinishModel", "endOf", "(I)I"⟩, 35), (⟨"StowfinishModel", "spoils", "(II)V"⟩, 35), (⟨"StowfinishModel", "whole", "(I)I"⟩, 35), (⟨"StowfinishModel", "isWeld", "(I)Z"⟩, 35), (⟨"StowfinishModel", "isScrapped", "(I)Z"⟩, 35), (⟨"StowfinishModel", "stands", "(I)Z"⟩, 35), (⟨"StowfinishModel", "isRoom", "(I)Z"⟩, 35), (⟨"StowfinishModel", "ways", "(I)V"⟩, 35), (⟨"StowfinishModel", "beyond", "(II)I"⟩, 35), (⟨"StowfinishModel", "nearer", "(I)I"⟩, 35), (⟨"StowfinishModel", "canLaunch", "(I)Z"⟩, 35), (⟨"StowfinishModel", "isWhole", "()Z"⟩, 35), (⟨"StowfinishModel", "greater", "()I"⟩, 35), (⟨"StowfinishModel", "draughtOf", "(Z)I"⟩, 35)]
theorem lw_r3 : ∀ q ∈ lw_privs_3, lw_okq q := List.forall_mem_cons.mpr ⟨lw_p32, List.forall_mem_cons.mpr ⟨lw_p33, List.forall_mem_cons.mpr ⟨lw_p34, List.forall_mem_cons.mpr ⟨lw_p35, List.forall_mem_cons.mpr ⟨lw_p36, List.forall_mem_cons.mpr ⟨lw_p37, List.forall_mem_cons.mpr ⟨lw_p38, List.forall_mem_cons.mpr ⟨lw_p39, List.forall_mem_cons.mpr ⟨lw_p40, List.forall_mem_cons.mpr ⟨lw_p41, List.forall_mem_cons.mpr ⟨lw_p42, List.forall_mem_cons.mpr ⟨lw_p43, List.forall_mem_cons.mpr ⟨lw_p44, List.forall_mem_cons.mpr ⟨lw_p45, List.forall_mem_cons.mpr ⟨lw_p46, List.forall_mem_cons.mpr ⟨lw_p47, fun _ h => absurd h List.not_mem_nil⟩⟩⟩⟩⟩⟩⟩⟩⟩⟩⟩⟩⟩⟩⟩⟩
theorem lw_p48 : lw_okq (⟨"StowfinishModel", "tonsOf", "()I"⟩, 35) := ⟨⟨by decide +kernel, by decide +kernel⟩, List.mem_of_getElem? (i := 843) (by decide +kernel), List.mem_of_getElem? (i := 1125) (by decide +kernel), List.mem_of_getElem? (i := 1126) (by decide +kernel)⟩
theorem lw_p49 : lw_okq (⟨"StowfinishModel", "centreOf", "()I"⟩, 35) := ⟨⟨by decide +kernel, by decide +kernel⟩, List.mem_of_getElem? (i := 843) (by decide +kernel), List.mem_of_getElem? (i := 1129) (by decide +kernel), List.mem_of_getElem? (i := 1130) (by decide +kernel)⟩
theorem lw_p50 : lw_okq (⟨"StowfinishModel", "tells", "(I)I"⟩, 35) := ⟨⟨by decide +kernel, by decide +kernel⟩, List.mem_of_getElem? (i := 843) (by decide +kernel), List.mem_of_getElem? (i := 1140) (by decide +kernel), List.mem_of_getElem? (i := 1141) (by decide +kernel)⟩
def lw_privs_4 : List (MethodName × Nat) := [(⟨"StowfinishModel", "tonsOf", "()I"⟩, 35), (⟨"StowfinishModel", "centreOf", "()I"⟩, 35), (⟨"StowfinishModel", "tells", "(I)I"⟩, 35)]
theorem lw_r4 : ∀ q ∈ lw_privs_4, lw_okq q := List.forall_mem_cons.mpr ⟨lw_p48, List.forall_mem_cons.mpr ⟨lw_p49, List.forall_mem_cons.mpr ⟨lw_p50, fun _ h => absurd h List.not_mem_nil⟩⟩⟩
def lw_privs : List (MethodName × Nat) := lw_privs_1 ++ (lw_privs_2 ++ (lw_privs_3 ++ (lw_privs_4)))
def lw_tbl : List Cond := k2_sels lw_privs ++ tables_1
theorem lw_privs_ok : ∀ q ∈ lw_privs, lw_okq q := by
  show ∀ q ∈ lw_privs_1 ++ (lw_privs_2 ++ (lw_privs_3 ++ (lw_privs_4))), lw_okq q
  exact List.forall_mem_append.mpr ⟨lw_r1, List.forall_mem_append.mpr ⟨lw_r2, List.forall_mem_append.mpr ⟨lw_r3, lw_r4⟩⟩⟩
end
section
def RX0 : String := "Stowfinish$Block"
def TX0 : u_T := fun k => match k with
  | 0 => ("Stowfinish$Block", "number", "I", true)
  | 1 => ("Stowfinish$Block", "first", "I", true)
  | 2 => ("Stowfinish$Block", "last", "I", true)
  | 3 => ("Stowfinish$Block", "level", "I", true)
  | 4 => ("Stowfinish$Block", "tons", "I", true)
  | 5 => ("Stowfinish$Block", "lugs", "I", true)
  | 6 => ("Stowfinish$Block", "length", "I", false)
  | 7 => ("Stowfinish$Block", "begin", "I", false)
  | 8 => ("Stowfinish$Block", "kind", "I", false)
  | _ => ("Stowfinish$Block", "whole", "LStowfinish$Block;", false)
def tyX0 : Nat → FieldType := fun k => match k with
  | 0 => .int
  | 1 => .int
  | 2 => .int
  | 3 => .int
  | 4 => .int
  | 5 => .int
  | 6 => .int
  | 7 => .int
  | 8 => .int
  | _ => .object "Stowfinish$Block"
abbrev wsX00 : List Cond := u_ws RX0 TX0 10
theorem nmX0 : ∀ a, a < 10 → ∀ b, b < 10 → a ≠ b → (TX0 a).2.1 ≠ (TX0 b).2.1 := by decide +kernel
theorem tyX0_ok : ∀ k, k < 10 → parseFieldDescriptor (TX0 k).2.2.1 = some (tyX0 k) := by decide +kernel
abbrev cX0_init : ByteArray := prog_2_method_1_code
def yX0_init : MethodName := ⟨RX0, "<init>", "(IIIIIII)V"⟩
abbrev cX0_frames : ByteArray := prog_2_method_2_code
def yX0_frames : MethodName := ⟨RX0, "frames", "()I"⟩
abbrev cX0_end : ByteArray := prog_2_method_3_code
def yX0_end : MethodName := ⟨RX0, "end", "()I"⟩
abbrev cX0_outermost : ByteArray := prog_2_method_4_code
def yX0_outermost : MethodName := ⟨RX0, "outermost", "()LStowfinish$Block;"⟩
abbrev cX0_tonsAt : ByteArray := prog_2_method_5_code
def yX0_tonsAt : MethodName := ⟨RX0, "tonsAt", "(I)I"⟩
abbrev cX0_fact : ByteArray := prog_2_method_6_code
def yX0_fact : MethodName := ⟨RX0, "fact", "(I)I"⟩
def RX1 : String := "Stowfinish$Hull"
def TX1 : u_T := fun k => match k with
  | 0 => ("Stowfinish$Hull", "rooms", "[LStowfinish$Room;", true)
  | 1 => ("Stowfinish$Hull", "tons", "I", false)
  | _ => ("Stowfinish$Hull", "moment", "I", false)
def tyX1 : Nat → FieldType := fun k => match k with
  | 0 => .array (.object "Stowfinish$Room")
  | 1 => .int
  | _ => .int
abbrev wsX10 : List Cond := u_ws RX1 TX1 3
theorem nmX1 : ∀ a, a < 3 → ∀ b, b < 3 → a ≠ b → (TX1 a).2.1 ≠ (TX1 b).2.1 := by decide +kernel
theorem tyX1_ok : ∀ k, k < 3 → parseFieldDescriptor (TX1 k).2.2.1 = some (tyX1 k) := by decide +kernel
abbrev cX1_init : ByteArray := prog_3_method_1_code
def yX1_init : MethodName := ⟨RX1, "<init>", "()V"⟩
abbrev cX1_roomOf : ByteArray := prog_3_method_2_code
def yX1_roomOf : MethodName := ⟨RX1, "roomOf", "(I)LStowfinish$Room;"⟩
abbrev cX1_roomOn : ByteArray := prog_3_method_3_code
def yX1_roomOn : MethodName := ⟨RX1, "roomOn", "(II)LStowfinish$Room;"⟩
abbrev cX1_blockAt : ByteArray := prog_3_method_4_code
def yX1_blockAt : MethodName := ⟨RX1, "blockAt", "(II)LStowfinish$Block;"⟩
abbrev cX1_load : ByteArray := prog_3_method_5_code
def yX1_load : MethodName := ⟨RX1, "load", "(II)V"⟩
abbrev cX1_fill : ByteArray := prog_3_method_6_code
def yX1_fill : MethodName := ⟨RX1, "fill", "(LStowfinish$Block;)V"⟩
abbrev cX1_isFull : ByteArray := prog_3_method_7_code
def yX1_isFull : MethodName := ⟨RX1, "isFull", "()Z"⟩
abbrev cX1_painted : ByteArray := prog_3_method_8_code
def yX1_painted : MethodName := ⟨RX1, "painted", "()I"⟩
abbrev cX1_tonsOfCells : ByteArray := prog_3_method_9_code
def yX1_tonsOfCells : MethodName := ⟨RX1, "tonsOfCells", "()I"⟩
abbrev cX1_balance : ByteArray := prog_3_method_10_code
def yX1_balance : MethodName := ⟨RX1, "balance", "()I"⟩
abbrev cX1_depth : ByteArray := prog_3_method_11_code
def yX1_depth : MethodName := ⟨RX1, "depth", "(Z)I"⟩
abbrev cX1_greaterDepth : ByteArray := prog_3_method_12_code
def yX1_greaterDepth : MethodName := ⟨RX1, "greaterDepth", "()I"⟩
def RX2 : String := "Stowfinish$Ledger"
def TX2 : u_T := fun k => match k with
  | 0 => ("Stowfinish$Ledger", "entries", "[I", true)
  | 1 => ("Stowfinish$Ledger", "count", "I", false)
  | _ => ("Stowfinish$Ledger", "sum", "I", false)
def tyX2 : Nat → FieldType := fun k => match k with
  | 0 => .array .int
  | 1 => .int
  | _ => .int
abbrev wsX20 : List Cond := u_ws RX2 TX2 3
theorem nmX2 : ∀ a, a < 3 → ∀ b, b < 3 → a ≠ b → (TX2 a).2.1 ≠ (TX2 b).2.1 := by decide +kernel
theorem tyX2_ok : ∀ k, k < 3 → parseFieldDescriptor (TX2 k).2.2.1 = some (tyX2 k) := by decide +kernel
abbrev cX2_init : ByteArray := prog_4_method_1_code
def yX2_init : MethodName := ⟨RX2, "<init>", "()V"⟩
abbrev cX2_enter : ByteArray := prog_4_method_2_code
def yX2_enter : MethodName := ⟨RX2, "enter", "(I)V"⟩
abbrev cX2_sumOfEntries : ByteArray := prog_4_method_3_code
def yX2_sumOfEntries : MethodName := ⟨RX2, "sumOfEntries", "()I"⟩
def RX3 : String := "Stowfinish$Pipe"
def TX3 : u_T := fun k => match k with
  | _ => ("Stowfinish$Pipe", "cells", "[I", true)
def tyX3 : Nat → FieldType := fun k => match k with
  | _ => .array .int
abbrev wsX30 : List Cond := u_ws RX3 TX3 1
theorem nmX3 : ∀ a, a < 1 → ∀ b, b < 1 → a ≠ b → (TX3 a).2.1 ≠ (TX3 b).2.1 := by decide +kernel
theorem tyX3_ok : ∀ k, k < 1 → parseFieldDescriptor (TX3 k).2.2.1 = some (tyX3 k) := by decide +kernel
abbrev cX3_init : ByteArray := prog_5_method_1_code
def yX3_init : MethodName := ⟨RX3, "<init>", "([I)V"⟩
def RX4 : String := "Stowfinish$Room"
def TX4 : u_T := fun k => match k with
  | 0 => ("Stowfinish$Room", "cell", "I", true)
  | 1 => ("Stowfinish$Room", "block", "LStowfinish$Block;", true)
  | 2 => ("Stowfinish$Room", "isPainted", "Z", false)
  | 3 => ("Stowfinish$Room", "things", "I", false)
  | 4 => ("Stowfinish$Room", "pipes", "I", false)
  | 5 => ("Stowfinish$Room", "holes", "I", false)
  | _ => ("Stowfinish$Room", "away", "I", false)
def tyX4 : Nat → FieldType := fun k => match k with
  | 0 => .int
  | 1 => .object "Stowfinish$Block"
  | 2 => .boolean
  | 3 => .int
  | 4 => .int
  | 5 => .int
  | _ => .int
abbrev wsX40 : List Cond := u_ws RX4 TX4 7
theorem nmX4 : ∀ a, a < 7 → ∀ b, b < 7 → a ≠ b → (TX4 a).2.1 ≠ (TX4 b).2.1 := by decide +kernel
theorem tyX4_ok : ∀ k, k < 7 → parseFieldDescriptor (TX4 k).2.2.1 = some (tyX4 k) := by decide +kernel
abbrev cX4_init : ByteArray := prog_6_method_1_code
def yX4_init : MethodName := ⟨RX4, "<init>", "(ILStowfinish$Block;)V"⟩
abbrev cX4_frame : ByteArray := prog_6_method_2_code
def yX4_frame : MethodName := ⟨RX4, "frame", "()I"⟩
abbrev cX4_hasAllPipes : ByteArray := prog_6_method_3_code
def yX4_hasAllPipes : MethodName := ⟨RX4, "hasAllPipes", "()Z"⟩
abbrev cX4_spoil : ByteArray := prog_6_method_4_code
def yX4_spoil : MethodName := ⟨RX4, "spoil", "()I"⟩
abbrev cX4_fact : ByteArray := prog_6_method_5_code
def yX4_fact : MethodName := ⟨RX4, "fact", "(I)I"⟩
def RX5 : String := "Stowfinish$Ways"
def TX5 : u_T := fun k => match k with
  | _ => ("Stowfinish$Ways", "hull", "LStowfinish$Hull;", true)
def tyX5 : Nat → FieldType := fun k => match k with
  | _ => .object "Stowfinish$Hull"
abbrev wsX50 : List Cond := u_ws RX5 TX5 1
theorem nmX5 : ∀ a, a < 1 → ∀ b, b < 1 → a ≠ b → (TX5 a).2.1 ≠ (TX5 b).2.1 := by decide +kernel
theorem tyX5_ok : ∀ k, k < 1 → parseFieldDescriptor (TX5 k).2.2.1 = some (tyX5 k) := by decide +kernel
abbrev cX5_init : ByteArray := prog_7_method_1_code
def yX5_init : MethodName := ⟨RX5, "<init>", "(LStowfinish$Hull;)V"⟩
abbrev cX5_seek : ByteArray := prog_7_method_2_code
def yX5_seek : MethodName := ⟨RX5, "seek", "(LStowfinish$Room;LStowfinish$Room;)[I"⟩
abbrev cX5_measure : ByteArray := prog_7_method_3_code
def yX5_measure : MethodName := ⟨RX5, "measure", "(LStowfinish$Room;)V"⟩
abbrev cX5_spreadAll : ByteArray := prog_7_method_4_code
def yX5_spreadAll : MethodName := ⟨RX5, "spreadAll", "(I)Z"⟩
abbrev cX5_spread : ByteArray := prog_7_method_5_code
def yX5_spread : MethodName := ⟨RX5, "spread", "(LStowfinish$Room;)Z"⟩
abbrev cX5_lowestNearer : ByteArray := prog_7_method_6_code
def yX5_lowestNearer : MethodName := ⟨RX5, "lowestNearer", "(LStowfinish$Room;)LStowfinish$Room;"⟩
abbrev cX5_through : ByteArray := prog_7_method_7_code
def yX5_through : MethodName := ⟨RX5, "through", "(LStowfinish$Room;I)LStowfinish$Room;"⟩
def RX6 : String := "Stowfinish$Weld"
def TX6 : u_T := fun k => match k with
  | 0 => ("Stowfinish$Weld", "block", "LStowfinish$Block;", true)
  | 1 => ("Stowfinish$Weld", "frame", "I", true)
  | 2 => ("Stowfinish$Weld", "state", "I", false)
  | 3 => ("Stowfinish$Weld", "repairs", "I", false)
  | _ => ("Stowfinish$Weld", "isFlawed", "Z", false)
def tyX6 : Nat → FieldType := fun k => match k with
  | 0 => .object "Stowfinish$Block"
  | 1 => .int
  | 2 => .int
  | 3 => .int
  | _ => .boolean
abbrev wsX60 : List Cond := u_ws RX6 TX6 5
theorem nmX6 : ∀ a, a < 5 → ∀ b, b < 5 → a ≠ b → (TX6 a).2.1 ≠ (TX6 b).2.1 := by decide +kernel
theorem tyX6_ok : ∀ k, k < 5 → parseFieldDescriptor (TX6 k).2.2.1 = some (tyX6 k) := by decide +kernel
abbrev cX6_init : ByteArray := prog_8_method_1_code
def yX6_init : MethodName := ⟨RX6, "<init>", "(LStowfinish$Block;I)V"⟩
abbrev cX6_isScrapped : ByteArray := prog_8_method_2_code
def yX6_isScrapped : MethodName := ⟨RX6, "isScrapped", "()Z"⟩
abbrev cX6_isStanding : ByteArray := prog_8_method_3_code
def yX6_isStanding : MethodName := ⟨RX6, "isStanding", "()Z"⟩
abbrev cX6_fact : ByteArray := prog_8_method_4_code
def yX6_fact : MethodName := ⟨RX6, "fact", "(I)I"⟩
def RX7 : String := "Stowfinish$Welders"
def TX7 : u_T := fun k => match k with
  | 0 => ("Stowfinish$Welders", "flaws", "[I", true)
  | _ => ("Stowfinish$Welders", "x", "I", false)
def tyX7 : Nat → FieldType := fun k => match k with
  | 0 => .array .int
  | _ => .int
abbrev wsX70 : List Cond := u_ws RX7 TX7 2
theorem nmX7 : ∀ a, a < 2 → ∀ b, b < 2 → a ≠ b → (TX7 a).2.1 ≠ (TX7 b).2.1 := by decide +kernel
theorem tyX7_ok : ∀ k, k < 2 → parseFieldDescriptor (TX7 k).2.2.1 = some (tyX7 k) := by decide +kernel
abbrev cX7_init : ByteArray := prog_9_method_1_code
def yX7_init : MethodName := ⟨RX7, "<init>", "()V"⟩
abbrev cX7_has : ByteArray := prog_9_method_2_code
def yX7_has : MethodName := ⟨RX7, "has", "(I)Z"⟩
abbrev cX7_drawFlaw : ByteArray := prog_9_method_3_code
def yX7_drawFlaw : MethodName := ⟨RX7, "drawFlaw", "(I)Z"⟩
def RX8 : String := "Stowfinish"
def TX8 : u_T := fun k => match k with
  | 0 => ("Stowfinish", "blocks", "[LStowfinish$Block;", true)
  | 1 => ("Stowfinish", "welds", "[LStowfinish$Weld;", true)
  | 2 => ("Stowfinish", "pipes", "[LStowfinish$Pipe;", true)
  | 3 => ("Stowfinish", "hull", "LStowfinish$Hull;", true)
  | 4 => ("Stowfinish", "ways", "LStowfinish$Ways;", true)
  | 5 => ("Stowfinish", "welders", "LStowfinish$Welders;", true)
  | 6 => ("Stowfinish", "ledger", "LStowfinish$Ledger;", true)
  | 7 => ("Stowfinish", "blockCount", "I", false)
  | 8 => ("Stowfinish", "weldCount", "I", false)
  | 9 => ("Stowfinish", "pipeCount", "I", false)
  | 10 => ("Stowfinish", "doorFrames", "I", false)
  | 11 => ("Stowfinish", "hallTons", "I", false)
  | 12 => ("Stowfinish", "craneFrame", "I", false)
  | 13 => ("Stowfinish", "craneTons", "I", false)
  | _ => ("Stowfinish", "isLaunched", "Z", false)
def tyX8 : Nat → FieldType := fun k => match k with
  | 0 => .array (.object "Stowfinish$Block")
  | 1 => .array (.object "Stowfinish$Weld")
  | 2 => .array (.object "Stowfinish$Pipe")
  | 3 => .object "Stowfinish$Hull"
  | 4 => .object "Stowfinish$Ways"
  | 5 => .object "Stowfinish$Welders"
  | 6 => .object "Stowfinish$Ledger"
  | 7 => .int
  | 8 => .int
  | 9 => .int
  | 10 => .int
  | 11 => .int
  | 12 => .int
  | 13 => .int
  | _ => .boolean
abbrev wsX80 : List Cond := u_ws RX8 TX8 15
theorem nmX8 : ∀ a, a < 15 → ∀ b, b < 15 → a ≠ b → (TX8 a).2.1 ≠ (TX8 b).2.1 := by decide +kernel
theorem tyX8_ok : ∀ k, k < 15 → parseFieldDescriptor (TX8 k).2.2.1 = some (tyX8 k) := by decide +kernel
abbrev cX8_init : ByteArray := prog_1_method_1_code
def yX8_init : MethodName := ⟨RX8, "<init>", "()V"⟩
abbrev cX8_hall : ByteArray := prog_1_method_2_code
def yX8_hall : MethodName := ⟨RX8, "hall", "(II)I"⟩
abbrev cX8_crane : ByteArray := prog_1_method_3_code
def yX8_crane : MethodName := ⟨RX8, "crane", "(II)I"⟩
abbrev cX8_welder : ByteArray := prog_1_method_4_code
def yX8_welder : MethodName := ⟨RX8, "welder", "(II)I"⟩
abbrev cX8_draw : ByteArray := prog_1_method_5_code
def yX8_draw : MethodName := ⟨RX8, "draw", "(I)I"⟩
abbrev cX8_block : ByteArray := prog_1_method_6_code
def yX8_block : MethodName := ⟨RX8, "block", "(IIIIII)I"⟩
abbrev cX8_join : ByteArray := prog_1_method_7_code
def yX8_join : MethodName := ⟨RX8, "join", "(III)I"⟩
abbrev cX8_erect : ByteArray := prog_1_method_8_code
def yX8_erect : MethodName := ⟨RX8, "erect", "(II)I"⟩
abbrev cX8_scrap : ByteArray := prog_1_method_9_code
def yX8_scrap : MethodName := ⟨RX8, "scrap", "(I)I"⟩
abbrev cX8_test : ByteArray := prog_1_method_10_code
def yX8_test : MethodName := ⟨RX8, "test", "(I)I"⟩
abbrev cX8_repair : ByteArray := prog_1_method_11_code
def yX8_repair : MethodName := ⟨RX8, "repair", "(II)I"⟩
abbrev cX8_hole : ByteArray := prog_1_method_12_code
def yX8_hole : MethodName := ⟨RX8, "hole", "(IZ)I"⟩
abbrev cX8_paint : ByteArray := prog_1_method_13_code
def yX8_paint : MethodName := ⟨RX8, "paint", "(I)I"⟩
abbrev cX8_fit : ByteArray := prog_1_method_14_code
def yX8_fit : MethodName := ⟨RX8, "fit", "(II)I"⟩
abbrev cX8_pipe : ByteArray := prog_1_method_15_code
def yX8_pipe : MethodName := ⟨RX8, "pipe", "(II)I"⟩
abbrev cX8_launch : ByteArray := prog_1_method_16_code
def yX8_launch : MethodName := ⟨RX8, "launch", "(I)I"⟩
abbrev cX8_blocks : ByteArray := prog_1_method_17_code
def yX8_blocks : MethodName := ⟨RX8, "blocks", "()I"⟩
abbrev cX8_welds : ByteArray := prog_1_method_18_code
def yX8_welds : MethodName := ⟨RX8, "welds", "()I"⟩
abbrev cX8_isAfloat : ByteArray := prog_1_method_19_code
def yX8_isAfloat : MethodName := ⟨RX8, "isAfloat", "()Z"⟩
abbrev cX8_whyNot : ByteArray := prog_1_method_20_code
def yX8_whyNot : MethodName := ⟨RX8, "whyNot", "(I)I"⟩
abbrev cX8_told : ByteArray := prog_1_method_21_code
def yX8_told : MethodName := ⟨RX8, "told", "(II)I"⟩
abbrev cX8_weld : ByteArray := prog_1_method_22_code
def yX8_weld : MethodName := ⟨RX8, "weld", "(II)I"⟩
abbrev cX8_cell : ByteArray := prog_1_method_23_code
def yX8_cell : MethodName := ⟨RX8, "cell", "(II)I"⟩
abbrev cX8_roomAt : ByteArray := prog_1_method_24_code
def yX8_roomAt : MethodName := ⟨RX8, "roomAt", "(II)I"⟩
abbrev cX8_tons : ByteArray := prog_1_method_25_code
def yX8_tons : MethodName := ⟨RX8, "tons", "()I"⟩
abbrev cX8_tonsAnew : ByteArray := prog_1_method_26_code
def yX8_tonsAnew : MethodName := ⟨RX8, "tonsAnew", "()I"⟩
abbrev cX8_centre : ByteArray := prog_1_method_27_code
def yX8_centre : MethodName := ⟨RX8, "centre", "()I"⟩
abbrev cX8_draught : ByteArray := prog_1_method_28_code
def yX8_draught : MethodName := ⟨RX8, "draught", "(Z)I"⟩
abbrev cX8_water : ByteArray := prog_1_method_29_code
def yX8_water : MethodName := ⟨RX8, "water", "(I)I"⟩
abbrev cX8_firstHour : ByteArray := prog_1_method_30_code
def yX8_firstHour : MethodName := ⟨RX8, "firstHour", "()I"⟩
abbrev cX8_money : ByteArray := prog_1_method_31_code
def yX8_money : MethodName := ⟨RX8, "money", "()I"⟩
abbrev cX8_moneyAnew : ByteArray := prog_1_method_32_code
def yX8_moneyAnew : MethodName := ⟨RX8, "moneyAnew", "()I"⟩
abbrev cX8_isWithin : ByteArray := prog_1_method_33_code
def yX8_isWithin : MethodName := ⟨RX8, "isWithin", "(III)Z"⟩
abbrev cX8_isFrame : ByteArray := prog_1_method_34_code
def yX8_isFrame : MethodName := ⟨RX8, "isFrame", "(I)Z"⟩
abbrev cX8_cellOf : ByteArray := prog_1_method_35_code
def yX8_cellOf : MethodName := ⟨RX8, "cellOf", "(II)I"⟩
abbrev cX8_waterAt : ByteArray := prog_1_method_36_code
def yX8_waterAt : MethodName := ⟨RX8, "waterAt", "(I)I"⟩
abbrev cX8_blockOf : ByteArray := prog_1_method_37_code
def yX8_blockOf : MethodName := ⟨RX8, "blockOf", "(I)LStowfinish$Block;"⟩
abbrev cX8_weldOf : ByteArray := prog_1_method_38_code
def yX8_weldOf : MethodName := ⟨RX8, "weldOf", "(I)LStowfinish$Weld;"⟩
abbrev cX8_hasSpaceForBlock : ByteArray := prog_1_method_39_code
def yX8_hasSpaceForBlock : MethodName := ⟨RX8, "hasSpaceForBlock", "()Z"⟩
abbrev cX8_hasSpaceForWelds : ByteArray := prog_1_method_40_code
def yX8_hasSpaceForWelds : MethodName := ⟨RX8, "hasSpaceForWelds", "(I)Z"⟩
abbrev cX8_keep : ByteArray := prog_1_method_41_code
def yX8_keep : MethodName := ⟨RX8, "keep", "(LStowfinish$Block;)I"⟩
abbrev cX8_canJoin : ByteArray := prog_1_method_42_code
def yX8_canJoin : MethodName := ⟨RX8, "canJoin", "(LStowfinish$Block;LStowfinish$Block;)Z"⟩
abbrev cX8_tonsTogether : ByteArray := prog_1_method_43_code
def yX8_tonsTogether : MethodName := ⟨RX8, "tonsTogether", "(LStowfinish$Block;LStowfinish$Block;)I"⟩
abbrev cX8_becomePart : ByteArray := prog_1_method_44_code
def yX8_becomePart : MethodName := ⟨RX8, "becomePart", "(LStowfinish$Block;LStowfinish$Block;)V"⟩
abbrev cX8_makeWeld : ByteArray := prog_1_method_45_code
def yX8_makeWeld : MethodName := ⟨RX8, "makeWeld", "(LStowfinish$Block;II)V"⟩
abbrev cX8_weldNow : ByteArray := prog_1_method_46_code
def yX8_weldNow : MethodName := ⟨RX8, "weldNow", "(LStowfinish$Weld;I)V"⟩
abbrev cX8_spoilAt : ByteArray := prog_1_method_47_code
def yX8_spoilAt : MethodName := ⟨RX8, "spoilAt", "(II)V"⟩
abbrev cX8_reasonAgainst : ByteArray := prog_1_method_48_code
def yX8_reasonAgainst : MethodName := ⟨RX8, "reasonAgainst", "(LStowfinish$Block;)I"⟩
abbrev cX8_isSomeFilled : ByteArray := prog_1_method_49_code
def yX8_isSomeFilled : MethodName := ⟨RX8, "isSomeFilled", "(LStowfinish$Block;)Z"⟩
abbrev cX8_isSomeBelowEmpty : ByteArray := prog_1_method_50_code
def yX8_isSomeBelowEmpty : MethodName := ⟨RX8, "isSomeBelowEmpty", "(LStowfinish$Block;)Z"⟩
abbrev cX8_liftOver : ByteArray := prog_1_method_51_code
def yX8_liftOver : MethodName := ⟨RX8, "liftOver", "(LStowfinish$Block;)I"⟩
abbrev cX8_isMisfit : ByteArray := prog_1_method_52_code
def yX8_isMisfit : MethodName := ⟨RX8, "isMisfit", "(LStowfinish$Block;)Z"⟩
abbrev cX8_neighbourAhead : ByteArray := prog_1_method_53_code
def yX8_neighbourAhead : MethodName := ⟨RX8, "neighbourAhead", "(LStowfinish$Block;)LStowfinish$Block;"⟩
abbrev cX8_neighbourBehind : ByteArray := prog_1_method_54_code
def yX8_neighbourBehind : MethodName := ⟨RX8, "neighbourBehind", "(LStowfinish$Block;)LStowfinish$Block;"⟩
abbrev cX8_excess : ByteArray := prog_1_method_55_code
def yX8_excess : MethodName := ⟨RX8, "excess", "(LStowfinish$Block;LStowfinish$Block;LStowfinish$Block;)I"⟩
abbrev cX8_beginOf : ByteArray := prog_1_method_56_code
def yX8_beginOf : MethodName := ⟨RX8, "beginOf", "(LStowfinish$Block;LStowfinish$Block;LStowfinish$Block;)I"⟩
abbrev cX8_roomNextTo : ByteArray := prog_1_method_57_code
def yX8_roomNextTo : MethodName := ⟨RX8, "roomNextTo", "(LStowfinish$Room;Z)LStowfinish$Room;"⟩
abbrev cX8_runThrough : ByteArray := prog_1_method_58_code
def yX8_runThrough : MethodName := ⟨RX8, "runThrough", "([I)V"⟩
abbrev cX8_isReady : ByteArray := prog_1_method_59_code
def yX8_isReady : MethodName := ⟨RX8, "isReady", "()Z"⟩
def RX9 : String := "StowfinishModel"
def TX9 : u_T := fun k => match k with
  | 0 => ("StowfinishModel", "door", "I", false)
  | 1 => ("StowfinishModel", "holds", "I", false)
  | 2 => ("StowfinishModel", "craneAt", "I", false)
  | 3 => ("StowfinishModel", "lifts", "I", false)
  | 4 => ("StowfinishModel", "x", "I", false)
  | 5 => ("StowfinishModel", "flaws", "[I", true)
  | 6 => ("StowfinishModel", "isAfloat", "Z", false)
  | 7 => ("StowfinishModel", "money", "I", false)
  | 8 => ("StowfinishModel", "blocks", "I", false)
  | 9 => ("StowfinishModel", "state", "[I", true)
  | 10 => ("StowfinishModel", "first", "[I", true)
  | 11 => ("StowfinishModel", "last", "[I", true)
  | 12 => ("StowfinishModel", "level", "[I", true)
  | 13 => ("StowfinishModel", "tons", "[I", true)
  | 14 => ("StowfinishModel", "length", "[I", true)
  | 15 => ("StowfinishModel", "lugs", "[I", true)
  | 16 => ("StowfinishModel", "begin", "[I", true)
  | 17 => ("StowfinishModel", "madeIn", "[I", true)
  | 18 => ("StowfinishModel", "welds", "I", false)
  | 19 => ("StowfinishModel", "weldState", "[I", true)
  | 20 => ("StowfinishModel", "isFlawed", "[Z", true)
  | 21 => ("StowfinishModel", "repairs", "[I", true)
  | 22 => ("StowfinishModel", "weldFrame", "[I", true)
  | 23 => ("StowfinishModel", "weldLevel", "[I", true)
  | 24 => ("StowfinishModel", "weldBlock", "[I", true)
  | 25 => ("StowfinishModel", "filledBy", "[I", true)
  | 26 => ("StowfinishModel", "isPainted", "[Z", true)
  | 27 => ("StowfinishModel", "things", "[I", true)
  | 28 => ("StowfinishModel", "pipesIn", "[I", true)
  | 29 => ("StowfinishModel", "holes", "[I", true)
  | 30 => ("StowfinishModel", "pipes", "I", false)
  | 31 => ("StowfinishModel", "pipeRooms", "[I", true)
  | 32 => ("StowfinishModel", "pipeRoom", "[I", true)
  | 33 => ("StowfinishModel", "far", "[I", true)
  | _ => ("StowfinishModel", "thrown", "I", false)
def tyX9 : Nat → FieldType := fun k => match k with
  | 0 => .int
  | 1 => .int
  | 2 => .int
  | 3 => .int
  | 4 => .int
  | 5 => .array .int
  | 6 => .boolean
  | 7 => .int
  | 8 => .int
  | 9 => .array .int
  | 10 => .array .int
  | 11 => .array .int
  | 12 => .array .int
  | 13 => .array .int
  | 14 => .array .int
  | 15 => .array .int
  | 16 => .array .int
  | 17 => .array .int
  | 18 => .int
  | 19 => .array .int
  | 20 => .array .boolean
  | 21 => .array .int
  | 22 => .array .int
  | 23 => .array .int
  | 24 => .array .int
  | 25 => .array .int
  | 26 => .array .boolean
  | 27 => .array .int
  | 28 => .array .int
  | 29 => .array .int
  | 30 => .int
  | 31 => .array .int
  | 32 => .array .int
  | 33 => .array .int
  | _ => .int
abbrev wsX90 : List Cond := u_ws RX9 TX9 35
theorem nmX9 : ∀ a, a < 35 → ∀ b, b < 35 → a ≠ b → (TX9 a).2.1 ≠ (TX9 b).2.1 := by decide +kernel
theorem tyX9_ok : ∀ k, k < 35 → parseFieldDescriptor (TX9 k).2.2.1 = some (tyX9 k) := by decide +kernel
abbrev cX9_init : ByteArray := prog_11_method_1_code
def yX9_init : MethodName := ⟨RX9, "<init>", "()V"⟩
abbrev cX9_thrown : ByteArray := prog_11_method_2_code
def yX9_thrown : MethodName := ⟨RX9, "thrown", "()I"⟩
abbrev cX9_fails : ByteArray := prog_11_method_3_code
def yX9_fails : MethodName := ⟨RX9, "fails", "(I)Z"⟩
abbrev cX9_isIn : ByteArray := prog_11_method_4_code
def yX9_isIn : MethodName := ⟨RX9, "isIn", "(III)Z"⟩
abbrev cX9_isFrame : ByteArray := prog_11_method_5_code
def yX9_isFrame : MethodName := ⟨RX9, "isFrame", "(I)Z"⟩
abbrev cX9_isLevel : ByteArray := prog_11_method_6_code
def yX9_isLevel : MethodName := ⟨RX9, "isLevel", "(I)Z"⟩
abbrev cX9_isWelder : ByteArray := prog_11_method_7_code
def yX9_isWelder : MethodName := ⟨RX9, "isWelder", "(I)Z"⟩
abbrev cX9_isBlock : ByteArray := prog_11_method_8_code
def yX9_isBlock : MethodName := ⟨RX9, "isBlock", "(I)Z"⟩
abbrev cX9_isWeld : ByteArray := prog_11_method_9_code
def yX9_isWeld : MethodName := ⟨RX9, "isWeld", "(I)Z"⟩
abbrev cX9_isRoom : ByteArray := prog_11_method_10_code
def yX9_isRoom : MethodName := ⟨RX9, "isRoom", "(I)Z"⟩
abbrev cX9_hall : ByteArray := prog_11_method_11_code
def yX9_hall : MethodName := ⟨RX9, "hall", "(II)I"⟩
abbrev cX9_crane : ByteArray := prog_11_method_12_code
def yX9_crane : MethodName := ⟨RX9, "crane", "(II)I"⟩
abbrev cX9_welder : ByteArray := prog_11_method_13_code
def yX9_welder : MethodName := ⟨RX9, "welder", "(II)I"⟩
abbrev cX9_draw : ByteArray := prog_11_method_14_code
def yX9_draw : MethodName := ⟨RX9, "draw", "(I)I"⟩
abbrev cX9_adds : ByteArray := prog_11_method_15_code
def yX9_adds : MethodName := ⟨RX9, "adds", "(IIIIII)I"⟩
abbrev cX9_block : ByteArray := prog_11_method_16_code
def yX9_block : MethodName := ⟨RX9, "block", "(IIIIII)I"⟩
abbrev cX9_draws : ByteArray := prog_11_method_17_code
def yX9_draws : MethodName := ⟨RX9, "draws", "(II)V"⟩
abbrev cX9_makes : ByteArray := prog_11_method_18_code
def yX9_makes : MethodName := ⟨RX9, "makes", "(IIII)V"⟩
abbrev cX9_canJoin : ByteArray := prog_11_method_19_code
def yX9_canJoin : MethodName := ⟨RX9, "canJoin", "(II)Z"⟩
abbrev cX9_join : ByteArray := prog_11_method_20_code
def yX9_join : MethodName := ⟨RX9, "join", "(III)I"⟩
abbrev cX9_blockAt : ByteArray := prog_11_method_21_code
def yX9_blockAt : MethodName := ⟨RX9, "blockAt", "(II)I"⟩
abbrev cX9_endOf : ByteArray := prog_11_method_22_code
def yX9_endOf : MethodName := ⟨RX9, "endOf", "(I)I"⟩
abbrev cX9_space : ByteArray := prog_11_method_23_code
def yX9_space : MethodName := ⟨RX9, "space", "(II)I"⟩
abbrev cX9_reason : ByteArray := prog_11_method_24_code
def yX9_reason : MethodName := ⟨RX9, "reason", "(I)I"⟩
abbrev cX9_spoils : ByteArray := prog_11_method_25_code
def yX9_spoils : MethodName := ⟨RX9, "spoils", "(II)V"⟩
abbrev cX9_erect : ByteArray := prog_11_method_26_code
def yX9_erect : MethodName := ⟨RX9, "erect", "(II)I"⟩
abbrev cX9_whole : ByteArray := prog_11_method_27_code
def yX9_whole : MethodName := ⟨RX9, "whole", "(I)I"⟩
abbrev cX9_scrap : ByteArray := prog_11_method_28_code
def yX9_scrap : MethodName := ⟨RX9, "scrap", "(I)I"⟩
abbrev cX9_isScrapped : ByteArray := prog_11_method_29_code
def yX9_isScrapped : MethodName := ⟨RX9, "isScrapped", "(I)Z"⟩
abbrev cX9_test : ByteArray := prog_11_method_30_code
def yX9_test : MethodName := ⟨RX9, "test", "(I)I"⟩
abbrev cX9_stands : ByteArray := prog_11_method_31_code
def yX9_stands : MethodName := ⟨RX9, "stands", "(I)Z"⟩
abbrev cX9_repair : ByteArray := prog_11_method_32_code
def yX9_repair : MethodName := ⟨RX9, "repair", "(II)I"⟩
abbrev cX9_hole : ByteArray := prog_11_method_33_code
def yX9_hole : MethodName := ⟨RX9, "hole", "(IZ)I"⟩
abbrev cX9_paint : ByteArray := prog_11_method_34_code
def yX9_paint : MethodName := ⟨RX9, "paint", "(I)I"⟩
abbrev cX9_fit : ByteArray := prog_11_method_35_code
def yX9_fit : MethodName := ⟨RX9, "fit", "(II)I"⟩
abbrev cX9_beyond : ByteArray := prog_11_method_36_code
def yX9_beyond : MethodName := ⟨RX9, "beyond", "(II)I"⟩
abbrev cX9_ways : ByteArray := prog_11_method_37_code
def yX9_ways : MethodName := ⟨RX9, "ways", "(I)V"⟩
abbrev cX9_nearer : ByteArray := prog_11_method_38_code
def yX9_nearer : MethodName := ⟨RX9, "nearer", "(I)I"⟩
abbrev cX9_pipe : ByteArray := prog_11_method_39_code
def yX9_pipe : MethodName := ⟨RX9, "pipe", "(II)I"⟩
abbrev cX9_tonsOf : ByteArray := prog_11_method_40_code
def yX9_tonsOf : MethodName := ⟨RX9, "tonsOf", "()I"⟩
abbrev cX9_centreOf : ByteArray := prog_11_method_41_code
def yX9_centreOf : MethodName := ⟨RX9, "centreOf", "()I"⟩
abbrev cX9_draughtOf : ByteArray := prog_11_method_42_code
def yX9_draughtOf : MethodName := ⟨RX9, "draughtOf", "(Z)I"⟩
abbrev cX9_greater : ByteArray := prog_11_method_43_code
def yX9_greater : MethodName := ⟨RX9, "greater", "()I"⟩
abbrev cX9_waterIn : ByteArray := prog_11_method_44_code
def yX9_waterIn : MethodName := ⟨RX9, "waterIn", "(I)I"⟩
abbrev cX9_isWhole : ByteArray := prog_11_method_45_code
def yX9_isWhole : MethodName := ⟨RX9, "isWhole", "()Z"⟩
abbrev cX9_canLaunch : ByteArray := prog_11_method_46_code
def yX9_canLaunch : MethodName := ⟨RX9, "canLaunch", "(I)Z"⟩
abbrev cX9_launch : ByteArray := prog_11_method_47_code
def yX9_launch : MethodName := ⟨RX9, "launch", "(I)I"⟩
abbrev cX9_tells : ByteArray := prog_11_method_48_code
def yX9_tells : MethodName := ⟨RX9, "tells", "(I)I"⟩
abbrev cX9_blocks : ByteArray := prog_11_method_49_code
def yX9_blocks : MethodName := ⟨RX9, "blocks", "()I"⟩
abbrev cX9_welds : ByteArray := prog_11_method_50_code
def yX9_welds : MethodName := ⟨RX9, "welds", "()I"⟩
abbrev cX9_isAfloat : ByteArray := prog_11_method_51_code
def yX9_isAfloat : MethodName := ⟨RX9, "isAfloat", "()Z"⟩
abbrev cX9_whyNot : ByteArray := prog_11_method_52_code
def yX9_whyNot : MethodName := ⟨RX9, "whyNot", "(I)I"⟩
abbrev cX9_told : ByteArray := prog_11_method_53_code
def yX9_told : MethodName := ⟨RX9, "told", "(II)I"⟩
abbrev cX9_weld : ByteArray := prog_11_method_54_code
def yX9_weld : MethodName := ⟨RX9, "weld", "(II)I"⟩
abbrev cX9_cell : ByteArray := prog_11_method_55_code
def yX9_cell : MethodName := ⟨RX9, "cell", "(II)I"⟩
abbrev cX9_roomAt : ByteArray := prog_11_method_56_code
def yX9_roomAt : MethodName := ⟨RX9, "roomAt", "(II)I"⟩
abbrev cX9_tons : ByteArray := prog_11_method_57_code
def yX9_tons : MethodName := ⟨RX9, "tons", "()I"⟩
abbrev cX9_tonsAnew : ByteArray := prog_11_method_58_code
def yX9_tonsAnew : MethodName := ⟨RX9, "tonsAnew", "()I"⟩
abbrev cX9_centre : ByteArray := prog_11_method_59_code
def yX9_centre : MethodName := ⟨RX9, "centre", "()I"⟩
abbrev cX9_draught : ByteArray := prog_11_method_60_code
def yX9_draught : MethodName := ⟨RX9, "draught", "(Z)I"⟩
abbrev cX9_water : ByteArray := prog_11_method_61_code
def yX9_water : MethodName := ⟨RX9, "water", "(I)I"⟩
abbrev cX9_firstHour : ByteArray := prog_11_method_62_code
def yX9_firstHour : MethodName := ⟨RX9, "firstHour", "()I"⟩
abbrev cX9_money : ByteArray := prog_11_method_63_code
def yX9_money : MethodName := ⟨RX9, "money", "()I"⟩
abbrev cX9_moneyAnew : ByteArray := prog_11_method_64_code
def yX9_moneyAnew : MethodName := ⟨RX9, "moneyAnew", "()I"⟩
def RJ9 : String := "java/lang/Math"
abbrev cJ9_abs_0f7a4 : ByteArray := prog_16_method_59_code
def yJ9_abs_0f7a4 : MethodName := ⟨RJ9, "abs", "(I)I"⟩
abbrev cJ9_max_7cf53 : ByteArray := prog_16_method_65_code
def yJ9_max_7cf53 : MethodName := ⟨RJ9, "max", "(II)I"⟩
abbrev cJ9_min_7cf53 : ByteArray := prog_16_method_69_code
def yJ9_min_7cf53 : MethodName := ⟨RJ9, "min", "(II)I"⟩
def RJ7 : String := "java/util/Arrays"
abbrev cJ7_fill_53178 : ByteArray := prog_20_method_103_code
def yJ7_fill_53178 : MethodName := ⟨RJ7, "fill", "([II)V"⟩
def RL : String := "StowfinishLaw"
abbrev cL_hall : ByteArray := method_3_code
def yL_hall : MethodName := ⟨RL, "hall", "(LStowfinish;II[J)I"⟩
abbrev cL_crane : ByteArray := method_4_code
def yL_crane : MethodName := ⟨RL, "crane", "(LStowfinish;II[J)I"⟩
abbrev cL_welder : ByteArray := method_5_code
def yL_welder : MethodName := ⟨RL, "welder", "(LStowfinish;II[J)I"⟩
abbrev cL_block : ByteArray := method_6_code
def yL_block : MethodName := ⟨RL, "block", "(LStowfinish;IIIIII[J)I"⟩
abbrev cL_join : ByteArray := method_7_code
def yL_join : MethodName := ⟨RL, "join", "(LStowfinish;III[J)I"⟩
abbrev cL_erect : ByteArray := method_8_code
def yL_erect : MethodName := ⟨RL, "erect", "(LStowfinish;II[J)I"⟩
abbrev cL_scrap : ByteArray := method_9_code
def yL_scrap : MethodName := ⟨RL, "scrap", "(LStowfinish;I[J)I"⟩
abbrev cL_test : ByteArray := method_10_code
def yL_test : MethodName := ⟨RL, "test", "(LStowfinish;I[J)I"⟩
abbrev cL_repair : ByteArray := method_11_code
def yL_repair : MethodName := ⟨RL, "repair", "(LStowfinish;II[J)I"⟩
abbrev cL_hole : ByteArray := method_12_code
def yL_hole : MethodName := ⟨RL, "hole", "(LStowfinish;IZ[J)I"⟩
abbrev cL_paint : ByteArray := method_13_code
def yL_paint : MethodName := ⟨RL, "paint", "(LStowfinish;I[J)I"⟩
abbrev cL_fit : ByteArray := method_14_code
def yL_fit : MethodName := ⟨RL, "fit", "(LStowfinish;II[J)I"⟩
abbrev cL_pipe : ByteArray := method_15_code
def yL_pipe : MethodName := ⟨RL, "pipe", "(LStowfinish;II[J)I"⟩
abbrev cL_launch : ByteArray := method_16_code
def yL_launch : MethodName := ⟨RL, "launch", "(LStowfinish;I[J)I"⟩
abbrev cL_whyNot : ByteArray := method_17_code
def yL_whyNot : MethodName := ⟨RL, "whyNot", "(LStowfinish;I[J)I"⟩
abbrev cL_told : ByteArray := method_18_code
def yL_told : MethodName := ⟨RL, "told", "(LStowfinish;II[J)I"⟩
abbrev cL_weld : ByteArray := method_19_code
def yL_weld : MethodName := ⟨RL, "weld", "(LStowfinish;II[J)I"⟩
abbrev cL_cell : ByteArray := method_20_code
def yL_cell : MethodName := ⟨RL, "cell", "(LStowfinish;II[J)I"⟩
abbrev cL_roomAt : ByteArray := method_21_code
def yL_roomAt : MethodName := ⟨RL, "roomAt", "(LStowfinish;II[J)I"⟩
abbrev cL_water : ByteArray := method_22_code
def yL_water : MethodName := ⟨RL, "water", "(LStowfinish;I[J)I"⟩
abbrev cL_law : ByteArray := code
def yL_law : MethodName := ⟨RL, "law", "([I)Z"⟩
abbrev vwCl : List vw_C := [(RX0, TX0, 10), (RX1, TX1, 3), (RX2, TX2, 3), (RX3, TX3, 1), (RX4, TX4, 7), (RX5, TX5, 1), (RX6, TX6, 5), (RX7, TX7, 2), (RX8, TX8, 15), (RX9, TX9, 35)]
end
section

/-! THE JUDGEMENT X: an abstract heap (kinds, lengths, numbers, references), the machine hidden in one definition; a rule an instruction. -/
abbrev AH : Type := (Nat → Nat) × (Nat → Nat) × (Nat → Nat → Int32) × (Nat → Nat → Option Nat) × (Nat → Nat → Int64)
def gT (h : AH) (a : Nat) : Nat := h.1 a
def gN (h : AH) (a : Nat) : Nat := h.2.1 a
def gI (h : AH) (a k : Nat) : Int32 := h.2.2.1 a k
def gR (h : AH) (a k : Nat) : Option Nat := h.2.2.2.1 a k
def gL (h : AH) (a k : Nat) : Int64 := h.2.2.2.2 a k
def u2 {α : Type} (f : Nat → Nat → α) (a k : Nat) (v : α) : Nat → Nat → α := fun b j => if b = a ∧ j = k then v else f b j
def sI (h : AH) (a k : Nat) (v : Int32) : AH := (h.1, h.2.1, u2 h.2.2.1 a k v, h.2.2.2.1, h.2.2.2.2)
def sR (h : AH) (a k : Nat) (v : Option Nat) : AH := (h.1, h.2.1, h.2.2.1, u2 h.2.2.2.1 a k v, h.2.2.2.2)
def sL (h : AH) (a k : Nat) (v : Int64) : AH := (h.1, h.2.1, h.2.2.1, h.2.2.2.1, u2 h.2.2.2.2 a k v)
def nO (h : AH) (a t n : Nat) : AH := (fun b => if b = a then t else h.1 b, fun b => if b = a then n else h.2.1 b, fun b j => if b = a then 0 else h.2.2.1 b j, fun b j => if b = a then none else h.2.2.2.1 b j, fun b j => if b = a then 0 else h.2.2.2.2 b j)
theorem gT_sI {h : AH} {a k : Nat} {v : Int32} (b : Nat) : gT (sI h a k v) b = gT h b := rfl
theorem gN_sI {h : AH} {a k : Nat} {v : Int32} (b : Nat) : gN (sI h a k v) b = gN h b := rfl
theorem gR_sI {h : AH} {a k : Nat} {v : Int32} (b j : Nat) : gR (sI h a k v) b j = gR h b j := rfl
theorem gL_sI {h : AH} {a k : Nat} {v : Int32} (b j : Nat) : gL (sI h a k v) b j = gL h b j := rfl
theorem gI_sI {h : AH} {a k : Nat} {v : Int32} (b j : Nat) : gI (sI h a k v) b j = if b = a ∧ j = k then v else gI h b j := rfl
theorem gT_sR {h : AH} {a k : Nat} {v : Option Nat} (b : Nat) : gT (sR h a k v) b = gT h b := rfl
theorem gN_sR {h : AH} {a k : Nat} {v : Option Nat} (b : Nat) : gN (sR h a k v) b = gN h b := rfl
theorem gI_sR {h : AH} {a k : Nat} {v : Option Nat} (b j : Nat) : gI (sR h a k v) b j = gI h b j := rfl
theorem gL_sR {h : AH} {a k : Nat} {v : Option Nat} (b j : Nat) : gL (sR h a k v) b j = gL h b j := rfl
theorem gR_sR {h : AH} {a k : Nat} {v : Option Nat} (b j : Nat) : gR (sR h a k v) b j = if b = a ∧ j = k then v else gR h b j := rfl
theorem gT_sL {h : AH} {a k : Nat} {v : Int64} (b : Nat) : gT (sL h a k v) b = gT h b := rfl
theorem gN_sL {h : AH} {a k : Nat} {v : Int64} (b : Nat) : gN (sL h a k v) b = gN h b := rfl
theorem gI_sL {h : AH} {a k : Nat} {v : Int64} (b j : Nat) : gI (sL h a k v) b j = gI h b j := rfl
theorem gR_sL {h : AH} {a k : Nat} {v : Int64} (b j : Nat) : gR (sL h a k v) b j = gR h b j := rfl
theorem gL_sL {h : AH} {a k : Nat} {v : Int64} (b j : Nat) : gL (sL h a k v) b j = if b = a ∧ j = k then v else gL h b j := rfl
theorem gT_nO {h : AH} {a t n : Nat} (b : Nat) : gT (nO h a t n) b = if b = a then t else gT h b := rfl
theorem gN_nO {h : AH} {a t n : Nat} (b : Nat) : gN (nO h a t n) b = if b = a then n else gN h b := rfl
theorem gI_nO {h : AH} {a t n : Nat} (b j : Nat) : gI (nO h a t n) b j = if b = a then 0 else gI h b j := rfl
theorem gR_nO {h : AH} {a t n : Nat} (b j : Nat) : gR (nO h a t n) b j = if b = a then none else gR h b j := rfl
theorem gL_nO {h : AH} {a t n : Nat} (b j : Nat) : gL (nO h a t n) b j = if b = a then 0 else gL h b j := rfl
/-- the kinds: 1 .. 10 an object of class 0 .. 9; 11 int[], 12 boolean[], 13 long[], 14 Block[], 15 Weld[], 16 Pipe[], 17 Room[]. Which fields of a class are references -/
def clsL : List (List Bool) := [[false, false, false, false, false, false, false, false, false, true], [true, false, false], [true, false, false], [true], [false, true, false, false, false, false, false], [true], [true, false, false, false, false], [true, false], [true, true, true, true, true, true, true, false, false, false, false, false, false, false, false], [false, false, false, false, false, true, false, false, false, true, true, true, true, true, true, true, true, true, false, true, true, true, true, true, true, true, true, true, true, true, false, true, true, true, false]]
def ety (t : Nat) : FieldType := match t with
  | 11 => .int
  | 12 => .boolean
  | 13 => .long
  | 14 => .object "Stowfinish$Block"
  | 15 => .object "Stowfinish$Weld"
  | 16 => .object "Stowfinish$Pipe"
  | _ => .object "Stowfinish$Room"
def encF (h : AH) (a : Nat) : Nat → List Bool → List Value
  | _, [] => []
  | k, b :: r => (if b then va_rf (gR h a k) else .int (gI h a k)) :: encF h a (k + 1) r
def encA (h : AH) (a : Nat) : vp_A := match gT h a with
  | 11 => (gN h a, .inl (gI h a))
  | 12 => (gN h a, .inl (gI h a))
  | 13 => (gN h a, .inr (.inl (gL h a)))
  | _ => (gN h a, .inr (.inr (.inr (.inr (gR h a)))))
def En (tys : List (ClassId × FieldType)) (h : AH) (a : Nat) (e : va_E) : Prop :=
  (∃ (ci : Nat) (ks : List Bool), gT h a = ci + 1 ∧ ci < 10 ∧ clsL[ci]? = some ks ∧ e = .inr (ci, encF h a 0 ks)) ∨
  (∃ (cA : ClassId) (t0 : Nat), 11 ≤ gT h a ∧ gT h a ≤ 17 ∧ tys[t0]? = some (cA, ety (gT h a)) ∧ e = .inl (cA, encA h a))
def Em (tys : List (ClassId × FieldType)) (ws : va_W) (h : AH) : Prop := (∀ a : Nat, gT h a ≠ 0 → ∃ (q0 : Nat) (e : va_E), ws[q0]? = some (a, e) ∧ En tys h a e) ∧ ∀ (q0 a : Nat) (e : va_E), ws[q0]? = some (a, e) → gT h a ≠ 0
theorem encF_get (h : AH) (a : Nat) : ∀ (ks : List Bool) (k0 k : Nat) (b : Bool), ks[k]? = some b → (encF h a k0 ks)[k]? = some (if b then va_rf (gR h a (k0 + k)) else .int (gI h a (k0 + k)))
  | [], _, _, _, hk => by simp at hk
  | c :: r, k0, 0, b, hk => by
    simp at hk
    subst hk
    rfl
  | c :: r, k0, k + 1, b, hk => by
    have h1 := encF_get h a r (k0 + 1) k b (by simpa using hk)
    rw [show k0 + (k + 1) = k0 + 1 + k by omega]
    simpa [encF] using h1
theorem encF_len (h : AH) (a : Nat) : ∀ (ks : List Bool) (k0 : Nat), (encF h a k0 ks).length = ks.length
  | [], _ => rfl
  | c :: r, k0 => by simp [encF, encF_len h a r]
theorem encF_cong {h h' : AH} {a : Nat} (hi : ∀ j, gI h' a j = gI h a j) (hr : ∀ j, gR h' a j = gR h a j) : ∀ (ks : List Bool) (k0 : Nat), encF h' a k0 ks = encF h a k0 ks
  | [], _ => rfl
  | c :: r, k0 => by simp [encF, encF_cong hi hr r, hi, hr]
theorem encF_hi {h : AH} {a p : Nat} {v : Int32} : ∀ (ks : List Bool) (k0 : Nat), p < k0 → encF (sI h a p v) a k0 ks = encF h a k0 ks
  | [], _, _ => rfl
  | c :: r, k0, hp => by
    have hne : ¬ k0 = p := by omega
    have ih := encF_hi (h := h) (a := a) (p := p) (v := v) r (k0 + 1) (by omega)
    simp [encF, ih, gR_sI, gI_sI, hne]
theorem encF_setI {h : AH} {a : Nat} {v : Int32} : ∀ (ks : List Bool) (k0 k : Nat), ks[k]? = some false → (encF h a k0 ks).set k (.int v) = encF (sI h a (k0 + k) v) a k0 ks
  | [], _, _, hk => by simp at hk
  | c :: r, k0, 0, hk => by
    simp at hk
    subst hk
    have ih := encF_hi (h := h) (a := a) (p := k0) (v := v) r (k0 + 1) (Nat.lt_succ_self k0)
    simp [encF, ih, gI_sI]
  | c :: r, k0, k + 1, hk => by
    have h1 := encF_setI (h := h) (a := a) (v := v) r (k0 + 1) k (by simpa using hk)
    rw [show k0 + 1 + k = k0 + (k + 1) by omega] at h1
    have hne : ¬ k0 = k0 + (k + 1) := by omega
    simp [encF, List.set_cons_succ, h1, gR_sI, gI_sI, hne]
theorem encF_hiR {h : AH} {a p : Nat} {v : Option Nat} : ∀ (ks : List Bool) (k0 : Nat), p < k0 → encF (sR h a p v) a k0 ks = encF h a k0 ks
  | [], _, _ => rfl
  | c :: r, k0, hp => by
    have hne : ¬ k0 = p := by omega
    have ih := encF_hiR (h := h) (a := a) (p := p) (v := v) r (k0 + 1) (by omega)
    simp [encF, ih, gR_sR, gI_sR, hne]
theorem encF_setR {h : AH} {a : Nat} {v : Option Nat} : ∀ (ks : List Bool) (k0 k : Nat), ks[k]? = some true → (encF h a k0 ks).set k (va_rf v) = encF (sR h a (k0 + k) v) a k0 ks
  | [], _, _, hk => by simp at hk
  | c :: r, k0, 0, hk => by
    simp at hk
    subst hk
    have ih := encF_hiR (h := h) (a := a) (p := k0) (v := v) r (k0 + 1) (Nat.lt_succ_self k0)
    simp [encF, ih, gR_sR]
  | c :: r, k0, k + 1, hk => by
    have h1 := encF_setR (h := h) (a := a) (v := v) r (k0 + 1) k (by simpa using hk)
    rw [show k0 + 1 + k = k0 + (k + 1) by omega] at h1
    have hne : ¬ k0 = k0 + (k + 1) := by omega
    simp [encF, List.set_cons_succ, h1, gR_sR, gI_sR, hne]
/-- an entry is the same where the kind, the length and all that lies there is -/
theorem En.cong {tys : List (ClassId × FieldType)} {h h' : AH} {a : Nat} {e : va_E} (ht : gT h' a = gT h a) (hn : gN h' a = gN h a) (hi : ∀ j, gI h' a j = gI h a j) (hr : ∀ j, gR h' a j = gR h a j) (hl : ∀ j, gL h' a j = gL h a j) (H : En tys h a e) : En tys h' a e := by
  rcases H with ⟨ci, ks, h1, h2, h3, h4⟩ | ⟨cA, t0, h1, h2, h3, h4⟩
  · exact Or.inl ⟨ci, ks, by rw [ht, h1], h2, h3, by rw [encF_cong hi hr]; exact h4⟩
  · refine Or.inr ⟨cA, t0, by rw [ht]; exact h1, by rw [ht]; exact h2, by rw [ht]; exact h3, ?_⟩
    rw [h4]
    have e1 : gI h' a = gI h a := funext hi
    have e2 : gR h' a = gR h a := funext hr
    have e3 : gL h' a = gL h a := funext hl
    simp only [encA, ht, hn, e1, e2, e3]
theorem En.more {tys : List (ClassId × FieldType)} (x : List (ClassId × FieldType)) {h : AH} {a : Nat} {e : va_E} (H : En tys h a e) : En (tys ++ x) h a e := by
  rcases H with H | ⟨cA, t0, h1, h2, h3, h4⟩
  · exact Or.inl H
  · exact Or.inr ⟨cA, t0, h1, h2, by rw [List.getElem?_append_left (List.getElem?_eq_some_iff.mp h3).1]; exact h3, h4⟩
theorem Em.more {tys : List (ClassId × FieldType)} (x : List (ClassId × FieldType)) {ws : va_W} {h : AH} (H : Em tys ws h) : Em (tys ++ x) ws h :=
  ⟨fun a ha => by obtain ⟨q, e, h1, h2⟩ := H.1 a ha; exact ⟨q, e, h1, h2.more x⟩, H.2⟩
theorem Em.upd {tys : List (ClassId × FieldType)} {ws : va_W} {h h' : AH} {q0 a : Nat} {e0 e' : va_E} (hE : Em tys ws h) (h0 : ws[q0]? = some (a, e0)) (htag : ∀ b, gT h' b = gT h b) (heq : ∀ b, b ≠ a → ∀ e, En tys h b e → En tys h' b e) (hnew : En tys h' a e') : Em tys (ws.set q0 (a, e')) h' := by
  have hlt := (List.getElem?_eq_some_iff.mp h0).1
  refine ⟨fun b hb => ?_, fun q b e hq => ?_⟩
  · by_cases hba : b = a
    · subst hba
      exact ⟨q0, e', List.getElem?_set_self hlt, hnew⟩
    · obtain ⟨q, e, h1, h2⟩ := hE.1 b (by rw [← htag]; exact hb)
      have hq : q0 ≠ q := fun z => by subst z; rw [h0] at h1; exact hba (congrArg Prod.fst (Option.some.inj h1)).symm
      exact ⟨q, e, by rw [List.getElem?_set_ne hq]; exact h1, heq b hba e h2⟩
  · rw [htag]
    by_cases hz : q0 = q
    · subst hz
      rw [List.getElem?_set_self hlt] at hq
      cases hq
      exact hE.2 _ _ _ h0
    · rw [List.getElem?_set_ne hz] at hq
      exact hE.2 _ _ _ hq
theorem Em.push {tys : List (ClassId × FieldType)} {A : Nat → Prop} {ws : va_W} {h : AH} {q t n : Nat} {e' : va_E} (hE : Em tys ws h) (hD : va_D A (ws ++ [(q, e')])) (ht : t ≠ 0) (hnew : En tys (nO h q t n) q e') : gT h q = 0 ∧ Em tys (ws ++ [(q, e')]) (nO h q t n) := by
  have fresh : ∀ (i : Nat) (e : va_E), ws[i]? ≠ some (q, e) := fun i e hi => by
    have hl := (List.getElem?_eq_some_iff.mp hi).1
    have h1 : (ws ++ [(q, e')])[i]? = some (q, e) := by rw [List.getElem?_append_left hl]; exact hi
    have h2 : (ws ++ [(q, e')])[ws.length]? = some (q, e') := by simp
    have := hD.1 i ws.length _ _ h1 h2 rfl
    omega
  refine ⟨Classical.byContradiction fun hz => ?_, fun b hb => ?_, fun i b e hi => ?_⟩
  · obtain ⟨i, e, h1, -⟩ := hE.1 q hz
    exact fresh i e h1
  · by_cases hbq : b = q
    · subst hbq
      exact ⟨ws.length, e', by simp, hnew⟩
    · obtain ⟨i, e, h1, h2⟩ := hE.1 b (by rw [gT_nO, if_neg hbq] at hb; exact hb)
      have hl := (List.getElem?_eq_some_iff.mp h1).1
      refine ⟨i, e, by rw [List.getElem?_append_left hl]; exact h1, h2.cong ?_ ?_ ?_ ?_ ?_⟩
      · rw [gT_nO, if_neg hbq]
      · rw [gN_nO, if_neg hbq]
      · intro j; rw [gI_nO, if_neg hbq]
      · intro j; rw [gR_nO, if_neg hbq]
      · intro j; rw [gL_nO, if_neg hbq]
  · rw [gT_nO]
    split
    · exact ht
    · rename_i hbq
      by_cases hl : i < ws.length
      · rw [List.getElem?_append_left hl] at hi
        exact hE.2 _ _ _ hi
      · rw [List.getElem?_append_right (by omega)] at hi
        have hz : i - ws.length < 1 := (List.getElem?_eq_some_iff.mp hi).1
        rw [show i - ws.length = 0 by omega] at hi
        cases hi
        exact absurd rfl hbq
/-! words -/
def TB : List Cond := lw_tbl.filter goodWord
theorem inT {w : Cond} (i : Nat) (h : tables_1[i]? = some w) (g : goodWord w = true) : w ∈ TB := List.mem_filter.mpr ⟨List.mem_append_right _ (List.mem_of_getElem? h), g⟩
theorem inS {w : Cond} (i : Nat) (h : (k2_sels lw_privs)[i]? = some w) (g : goodWord w = true) : w ∈ TB := List.mem_filter.mpr ⟨List.mem_append_left _ (List.mem_of_getElem? h), g⟩
theorem TB_good {w : Cond} (h : w ∈ TB) : goodWord w = true := (List.mem_filter.mp h).2
/-- what a class's table row gives -/
def CI (ci : Nat) (C : String) (T : u_T) (N : Nat) (ty : Nat → FieldType) (ks : List Bool) : Prop :=
  vwCl[ci]? = some (C, T, N) ∧ (∀ w ∈ u_ws C T N, w ∈ TB) ∧ (∀ k, k < N → parseFieldDescriptor (T k).2.2.1 = some (ty k)) ∧ (∀ a, a < N → ∀ b, b < N → a ≠ b → (T a).2.1 ≠ (T b).2.1) ∧ clsL[ci]? = some ks ∧ ks.length = N ∧ ci < 10 ∧
  (∀ j, j < N → defaultValue (ty j) = if ks[j]? = some true then .null else .int 0)
/-- a field by its place in a constant pool -/
def FG (own : String) (idx ci k : Nat) : Prop := ∃ C T N ty ks, CI ci C T N ty ks ∧ k < N ∧ Cond.fieldLink own idx (T k).1 (T k).2.1 (T k).2.2.1 ∈ TB
/-- .. that is written: final or not, of a type -/
def FP (own : String) (idx ci k : Nat) (fin : Bool) (t : FieldType) : Prop := ∃ C T N ty ks, CI ci C T N ty ks ∧ k < N ∧ Cond.fieldLink own idx (T k).1 (T k).2.1 (T k).2.2.1 ∈ TB ∧ (T k).2.2.2 = fin ∧ ty k = t ∧ (fin = true → (T k).1 = own)
/-! the world: launch, class numbers, the first new address, the addresses of the two static rows and of the script, its length and ints -/
abbrev W0 : Type := Launch × va_G × Nat × Nat × Nat × Nat × Nat × (Nat → Int32)
abbrev W0.la (w : W0) : Launch := w.1
abbrev W0.dg (w : W0) : va_G := w.2.1
abbrev W0.b0 (w : W0) : Nat := w.2.2.1
abbrev W0.aS (w : W0) : Nat := w.2.2.2.1
abbrev W0.aH (w : W0) : Nat := w.2.2.2.2.1
abbrev W0.aX (w : W0) : Nat := w.2.2.2.2.2.1
abbrev W0.lX (w : W0) : Nat := w.2.2.2.2.2.2.1
abbrev W0.xs (w : W0) : Nat → Int32 := w.2.2.2.2.2.2.2
abbrev wA (w : W0) : Nat → Prop := fun q => w.b0 ≤ q
def sideS : Nat → Int32 := fun k => match k with
  | 0 => -12
  | 1 => -1
  | 2 => 1
  | _ => 12
def sideH : Nat → Int32 := fun k => match k with
  | 0 => 4
  | 1 => 1
  | 2 => 2
  | _ => 8
def NWl : List Cond := [(Jvm.Cond.castable "java/lang/IllegalArgumentException" "java/lang/IllegalArgumentException"), (Jvm.Cond.declares ({ cls := "java/lang/RuntimeException", name := "<init>", desc := "()V" } : Jvm.MethodName)), (Jvm.Cond.declares ({ cls := "java/lang/RuntimeException", name := "<init>", desc := "(Ljava/lang/String;)V" } : Jvm.MethodName)), (Jvm.Cond.declares ({ cls := "java/lang/Exception", name := "<init>", desc := "()V" } : Jvm.MethodName)), (Jvm.Cond.declares ({ cls := "java/lang/Exception", name := "<init>", desc := "(Ljava/lang/String;)V" } : Jvm.MethodName)), (Jvm.Cond.declares ({ cls := "java/lang/Throwable", name := "<init>", desc := "()V" } : Jvm.MethodName)), (Jvm.Cond.declares ({ cls := "java/lang/Throwable", name := "<init>", desc := "(Ljava/lang/String;)V" } : Jvm.MethodName)), (Jvm.Cond.castable "java/lang/IndexOutOfBoundsException" "java/lang/IndexOutOfBoundsException"), (Jvm.Cond.castable "java/lang/IllegalStateException" "java/lang/IllegalStateException"), (Jvm.Cond.methodLinkNest "Stowfinish$Hull" (24 : Nat) ({ cls := "Stowfinish", name := "cellOf", desc := "(II)I" } : Jvm.MethodName) "Stowfinish"), (Jvm.Cond.fieldLinkNest "Stowfinish$Ways" (50 : Nat) "Stowfinish" "SIDE_HOLES" "[I" "Stowfinish"), (Jvm.Cond.fieldLinkNest "Stowfinish$Ways" (58 : Nat) "Stowfinish" "SIDE_STEPS" "[I" "Stowfinish")]
def STl : List (String × Nat × String) := [("Stowfinish", 89, "frames or tons out of range"), ("Stowfinish", 100, "no such frame"), ("Stowfinish", 103, "tons out of range"), ("Stowfinish", 109, "no such welder"), ("Stowfinish", 111, "flaws out of range"), ("Stowfinish", 116, "no such frame or level"), ("Stowfinish", 118, "last, tons, more or lugs out of range"), ("Stowfinish", 126, "afloat, or no more blocks"), ("Stowfinish", 143, "no such block or welder"), ("Stowfinish", 152, "cannot be joined"), ("Stowfinish", 191, "cannot be put on the berth"), ("Stowfinish", 224, "no such block"), ("Stowfinish", 226, "not loose"), ("Stowfinish", 236, "no such weld"), ("Stowfinish", 244, "not untested, or scrapped"), ("Stowfinish", 249, "no such weld or welder"), ("Stowfinish", 254, "cannot be repaired"), ("Stowfinish", 268, "no such room"), ("Stowfinish", 275, "there is one, or afloat"), ("Stowfinish", 283, "painted already"), ("Stowfinish", 291, "not painted, or too much in it"), ("Stowfinish", 300, "both are the same"), ("Stowfinish", 302, "no more pipes"), ("Stowfinish", 308, "no way"), ("Stowfinish", 316, "hour out of range"), ("Stowfinish", 328, "cannot be launched"), ("Stowfinish", 330, "what out of range"), ("Stowfinish", 336, "no such cell"), ("Stowfinish", 339, "no such pipe or place")]
def NCl : List (String × String) := [("java/lang/IndexOutOfBoundsException", "java/lang/IllegalArgumentException"), ("java/lang/IndexOutOfBoundsException", "java/lang/IllegalStateException"), ("java/lang/IllegalArgumentException", "java/lang/IndexOutOfBoundsException"), ("java/lang/IllegalArgumentException", "java/lang/IllegalStateException"), ("java/lang/IllegalStateException", "java/lang/IndexOutOfBoundsException"), ("java/lang/IllegalStateException", "java/lang/IllegalArgumentException")]
def AOl : List String := ["Stowfinish$Block", "Stowfinish$Weld", "Stowfinish$Pipe", "Stowfinish$Room"]
/-- what never changes -/
def SB (w : W0) (s : State) (H : Heap) : Prop :=
  w.la.stackTraces = false ∧ w.b0 ≤ H.size ∧ vx_Zq Bundle.tN "UNASSIGNED_STACK" Bundle.steD (wA w) s H ∧ vx_Zq Bundle.tN "SUPPRESSED_SENTINEL" Bundle.listD (wA w) s H ∧
  va_Z "Stowfinish" "SIDE_STEPS" "[I" (.ref w.aS) (wA w) s H ∧ va_Z "Stowfinish" "SIDE_HOLES" "[I" (.ref w.aH) (wA w) s H ∧
  (va_X w.aS 4 sideS s H ∧ w.aS < w.b0) ∧ (va_X w.aH 4 sideH s H ∧ w.aH < w.b0) ∧ (va_X w.aX w.lX w.xs s H ∧ w.aX < w.b0) ∧
  (∀ c ∈ NWl, va_Nw c s) ∧ (∀ c ∈ STl, ∃ a, vk_R c.1 c.2.1 c.2.2 a s) ∧ (∀ c ∈ NCl, va_Nc c.1 c.2 s) ∧ (∀ c ∈ AOl, va_AO c s)
def nwk : Cond → Bool
  | .castable _ _ => true
  | .declares _ => true
  | .methodLinkNest _ _ _ _ => true
  | .fieldLinkNest _ _ _ _ _ _ => true
  | _ => false
theorem NWl_ok : ∀ c ∈ NWl, nwk c = true := by decide +kernel
theorem nwk_warm {c : Cond} {s U : State} (hk : nwk c = true) (hW : s.WarmedH U.vm) (h : va_Nw c s) : va_Nw c U := by
  cases c <;> first | exact va_Nw.warmC hW h | exact va_Nw.warmD hW h | exact va_Nw.warmM hW h | exact va_Nw.warmF hW h | exact absurd hk Bool.false_ne_true
theorem SB.to {w : W0} {s U : State} {H H1 : Heap} (h : SB w s H) (hW : s.WarmedH U.vm) (hz : H.size ≤ H1.size) (hq : ∀ a : Nat, a < H.size → ¬ wA w a → H1[a]? = H[a]?) : SB w U H1 := by
  obtain ⟨h1, h2, h3, h4, h5, h6, ⟨h7, h7b⟩, ⟨h8, h8b⟩, ⟨h9, h9b⟩, h10, h11, h12, h13⟩ := h
  have hv := hW.alike
  have hx : ∀ {b : Nat}, b < w.b0 → H1[b]? = H[b]? := fun {b} hb => hq b (Nat.lt_of_lt_of_le hb h2) (Nat.not_le.mpr hb)
  exact ⟨h1, Nat.le_trans h2 hz, vx_Zq.moved hv (h3.kept hq), vx_Zq.moved hv (h4.kept hq), va_Z.moved hv (h5.kept hq), va_Z.moved hv (h6.kept hq),
    ⟨va_X.moved hv (h7.kept (hx h7b)), h7b⟩, ⟨va_X.moved hv (h8.kept (hx h8b)), h8b⟩, ⟨va_X.moved hv (h9.kept (hx h9b)), h9b⟩,
    fun c hc => nwk_warm (NWl_ok c hc) hW (h10 c hc), fun c hc => by obtain ⟨a, ha⟩ := h11 c hc; exact ⟨a, vk_R.warm hW ha⟩, fun c hc => va_Nc.moved hv (h12 c hc), fun c hc => va_AO.moved hv (h13 c hc)⟩
def RepX (w : W0) (h : AH) (U : State) : Prop := ∃ tys ws, va_K w.dg vwCl tys U ∧ va_P w.dg vwCl ws U.heap ∧ va_D (wA w) ws ∧ Em tys ws h
def PcX (w : W0) (as : List Value) (h : AH) : Array Value → State → Prop := va_Pc as (fun U => RepX w h U ∧ SB w U U.heap)
def QcX (w : W0) (Q : Option Value → AH → Prop) : Array Value → State → Outcome → State → Prop := fun _ st o t => ∃ v h', o = .returned v ∧ Q v h' ∧ RepX w h' t ∧ va_F (wA w) st t
def XcX (w : W0) (QX : String → AH → Prop) : String → State → State → Prop := fun E st t => ∃ h', QX E h' ∧ RepX w h' t ∧ va_F (wA w) st t
/-- of a method: its class, bytes, locals, return type, room, whether a constructor, its handlers -/
abbrev MI : Type := String × ByteArray × Nat × Option FieldType × Room × Bool × List (Nat × Nat × Nat × Nat)
abbrev MI.ow (M : MI) : String := M.1
abbrev MI.cd (M : MI) : ByteArray := M.2.1
abbrev MI.ml (M : MI) : Nat := M.2.2.1
abbrev MI.rt (M : MI) : Option FieldType := M.2.2.2.1
abbrev MI.rm (M : MI) : Room := M.2.2.2.2.1
abbrev MI.ii (M : MI) : Bool := M.2.2.2.2.2.1
abbrev MI.hh (M : MI) : List (Nat × Nat × Nat × Nat) := M.2.2.2.2.2.2
def Cx (M : MI) (p : Program) (s : State) (m : MethodId) (args : Array Value) (meth : Method) (c : Code) : Prop :=
  p.tables.exec = Jvm.exec ∧ c.code = M.cd ∧ c.maxLocals = M.ml ∧ meth.sig.returnType = M.rt ∧ meth.locks = false ∧ s.vm.findClass M.ow = some m.cls ∧ (∀ t ∈ TB, t.before args s = true) ∧ (M.ii = true → meth.name = "<init>") ∧ c.exceptionTable.toList = tableOf M.hh
def LH (ls : Array Slot) (n : Nat) (Lc : List (Option Value)) : Prop := ls.size = n ∧ lv_wf ls ∧ Lc.length = n ∧ ∀ (i : Nat) (v : Value), Lc[i]? = some (some v) → v.category = 1 ∧ ls[i]? = some (.val v)
def X (w : W0) (M : MI) (Q : Option Value → AH → Prop) (QX : String → AH → Prop) (kc ns pc : Nat) (L : List (Option Value)) (st : List Value) (h : AH) : Prop :=
  ∀ (p : Program) (e : Env) (s : State) (m : MethodId) (args : Array Value) (below : List Frame) (meth : Method) (c : Code) (H : Heap) (locs : List Loc) (tys : List (ClassId × FieldType)) (ws : va_W) (ls : Array Slot),
    Cx M p s m args meth c → va_K w.dg vwCl tys s → va_P w.dg vwCl ws H → va_D (wA w) ws → Em tys ws h → va_S (wA w) s.heap H locs → SB w s s.heap → LH ls M.ml L →
    W p w.la e M.rm s m args below meth c H locs kc ns (vx_MQ below (QcX w Q) (XcX w QX) args s M.rm.cells M.rm.slots (wA w)) (F0 m pc ls st)
/-! locals -/
def LHp (Lc : List (Option Value)) : List (Nat × Value) := (List.range Lc.length).filterMap fun i => match Lc[i]? with
  | some (some v) => some (i, v)
  | _ => none
theorem LHp_mem {Lc : List (Option Value)} {i : Nat} {v : Value} : (i, v) ∈ LHp Lc ↔ Lc[i]? = some (some v) := by
  unfold LHp
  rw [List.mem_filterMap]
  constructor
  · rintro ⟨j, -, hj⟩
    split at hj
    · rename_i v' hv'
      cases hj
      exact hv'
    · cases hj
  · intro hi
    have hl := (List.getElem?_eq_some_iff.mp hi).1
    exact ⟨i, List.mem_range.mpr hl, by rw [hi]⟩
theorem LH.has {ls : Array Slot} {n : Nat} {Lc : List (Option Value)} (h : LH ls n Lc) : lv_has ls n (LHp Lc) := ⟨h.1, h.2.1, fun q hq => (h.2.2.2 q.1 q.2 (LHp_mem.mp hq)).2⟩
theorem LH.at {ls : Array Slot} {n : Nat} {Lc : List (Option Value)} (h : LH ls n Lc) {i : Nat} {v : Value} (hi : Lc[i]? = some (some v)) : ls[i]? = some (.val v) := (h.2.2.2 i v hi).2
theorem LH.put {ls ls' : Array Slot} {n i : Nat} {v : Value} {Lc : List (Option Value)} (h : LH ls n Lc) (hv : v.category = 1) (h' : lv_has ls' n ((i, v) :: (LHp Lc).filter (fun q => !(q.1 == i) && !(q.1 + 1 == i && q.2.category == 2)))) : LH ls' n (Lc.set i (some v)) := by
  refine ⟨h'.1, h'.2.1, by rw [List.length_set]; exact h.2.2.1, fun j x hj => ?_⟩
  by_cases hij : i = j
  · subst hij
    have hl : i < Lc.length := by
      have := (List.getElem?_eq_some_iff.mp hj).1
      rwa [List.length_set] at this
    rw [List.getElem?_set_self hl] at hj
    cases hj
    exact ⟨hv, h'.2.2 (i, v) List.mem_cons_self⟩
  · rw [List.getElem?_set_ne hij] at hj
    obtain ⟨hc, -⟩ := h.2.2.2 j x hj
    refine ⟨hc, h'.2.2 (j, x) (List.mem_cons_of_mem _ (List.mem_filter.mpr ⟨LHp_mem.mpr hj, ?_⟩))⟩
    simp [hc, Ne.symm hij]
theorem LHp_idx {Lc : List (Option Value)} {i : Nat} {v : Value} (hi : Lc[i]? = some (some v)) : ∃ k : Nat, (LHp Lc)[k]? = some (i, v) := by
  obtain ⟨k, hk⟩ := List.getElem?_of_mem (LHp_mem.mpr hi)
  exact ⟨k, hk⟩
section XR
variable {w : W0} {M : MI} {Q : Option Value → AH → Prop} {QX : String → AH → Prop} {kc ns pc : Nat} {L : List (Option Value)} {st : List Value} {h : AH}
theorem x_iconst {n : Int} (hd : decode M.cd pc = .ok (.iconst n, 1)) (k : X w M Q QX kc ns (pc + 1) L (.int (Int32.ofInt n) :: st) h) : X w M Q QX kc ns pc L st h := by
  intro p e s m args below meth c H locs tys ws ls C hK hP hD hE hS hB hl
  have C0 := C
  obtain ⟨hx, hb, hml, hr, hlk, hown, hts, hin, htab⟩ := C
  exact lv_iconst hx hb hd rfl (k p e s m args below meth c H locs tys ws ls C0 hK hP hD hE hS hB hl)
theorem x_bipush {n : Int} (hd : decode M.cd pc = .ok (.bipush n, 2)) (k : X w M Q QX kc ns (pc + 2) L (.int (Int8.ofInt n).toInt32 :: st) h) : X w M Q QX kc ns pc L st h := by
  intro p e s m args below meth c H locs tys ws ls C hK hP hD hE hS hB hl
  have C0 := C
  obtain ⟨hx, hb, hml, hr, hlk, hown, hts, hin, htab⟩ := C
  exact lv_bipush hx hb hd rfl (k p e s m args below meth c H locs tys ws ls C0 hK hP hD hE hS hB hl)
theorem x_sipush {n : Int} (hd : decode M.cd pc = .ok (.sipush n, 3)) (k : X w M Q QX kc ns (pc + 3) L (.int (Int16.ofInt n).toInt32 :: st) h) : X w M Q QX kc ns pc L st h := by
  intro p e s m args below meth c H locs tys ws ls C hK hP hD hE hS hB hl
  have C0 := C
  obtain ⟨hx, hb, hml, hr, hlk, hown, hts, hin, htab⟩ := C
  exact lv_sipush hx hb hd rfl (k p e s m args below meth c H locs tys ws ls C0 hK hP hD hE hS hB hl)
theorem x_null  (hd : decode M.cd pc = .ok (.aconst_null, 1)) (k : X w M Q QX kc ns (pc + 1) L (.null :: st) h) : X w M Q QX kc ns pc L st h := by
  intro p e s m args below meth c H locs tys ws ls C hK hP hD hE hS hB hl
  have C0 := C
  obtain ⟨hx, hb, hml, hr, hlk, hown, hts, hin, htab⟩ := C
  exact lv_null hx hb hd (k p e s m args below meth c H locs tys ws ls C0 hK hP hD hE hS hB hl)
theorem x_iload_n {i : Fin 4} {x : Int32} (hd : decode M.cd pc = .ok (.iload_n i, 1)) (hg : L[(i : Nat)]? = some (some (.int x))) (k : X w M Q QX kc ns (pc + 1) L (.int x :: st) h) : X w M Q QX kc ns pc L st h := by
  intro p e s m args below meth c H locs tys ws ls C hK hP hD hE hS hB hl
  have C0 := C
  obtain ⟨hx, hb, hml, hr, hlk, hown, hts, hin, htab⟩ := C
  exact lv_iload_n hx hb hd rfl (hl.at hg) (k p e s m args below meth c H locs tys ws ls C0 hK hP hD hE hS hB hl)
theorem x_iload {i : Nat} {x : Int32} (hd : decode M.cd pc = .ok (.iload i, 2)) (hg : L[i]? = some (some (.int x))) (k : X w M Q QX kc ns (pc + 2) L (.int x :: st) h) : X w M Q QX kc ns pc L st h := by
  intro p e s m args below meth c H locs tys ws ls C hK hP hD hE hS hB hl
  have C0 := C
  obtain ⟨hx, hb, hml, hr, hlk, hown, hts, hin, htab⟩ := C
  exact lv_iload hx hb hd (hl.at hg) (k p e s m args below meth c H locs tys ws ls C0 hK hP hD hE hS hB hl)
theorem x_aload_n {i : Fin 4} {x : Nat} (hd : decode M.cd pc = .ok (.aload_n i, 1)) (hg : L[(i : Nat)]? = some (some (.ref x))) (k : X w M Q QX kc ns (pc + 1) L (.ref x :: st) h) : X w M Q QX kc ns pc L st h := by
  intro p e s m args below meth c H locs tys ws ls C hK hP hD hE hS hB hl
  have C0 := C
  obtain ⟨hx, hb, hml, hr, hlk, hown, hts, hin, htab⟩ := C
  exact lv_aload_n hx hb hd rfl (hl.at hg) (k p e s m args below meth c H locs tys ws ls C0 hK hP hD hE hS hB hl)
theorem x_aload {i : Nat} {x : Nat} (hd : decode M.cd pc = .ok (.aload i, 2)) (hg : L[i]? = some (some (.ref x))) (k : X w M Q QX kc ns (pc + 2) L (.ref x :: st) h) : X w M Q QX kc ns pc L st h := by
  intro p e s m args below meth c H locs tys ws ls C hK hP hD hE hS hB hl
  have C0 := C
  obtain ⟨hx, hb, hml, hr, hlk, hown, hts, hin, htab⟩ := C
  exact lv_aload hx hb hd (hl.at hg) (k p e s m args below meth c H locs tys ws ls C0 hK hP hD hE hS hB hl)
theorem x_aloadN_n {i : Fin 4} (hd : decode M.cd pc = .ok (.aload_n i, 1)) (hg : L[(i : Nat)]? = some (some .null)) (k : X w M Q QX kc ns (pc + 1) L (.null :: st) h) : X w M Q QX kc ns pc L st h := by
  intro p e s m args below meth c H locs tys ws ls C hK hP hD hE hS hB hl
  have C0 := C
  obtain ⟨hx, hb, hml, hr, hlk, hown, hts, hin, htab⟩ := C
  exact lv_aload_nN hx hb hd rfl (hl.at hg) (k p e s m args below meth c H locs tys ws ls C0 hK hP hD hE hS hB hl)
theorem x_aloadN {i : Nat} (hd : decode M.cd pc = .ok (.aload i, 2)) (hg : L[i]? = some (some .null)) (k : X w M Q QX kc ns (pc + 2) L (.null :: st) h) : X w M Q QX kc ns pc L st h := by
  intro p e s m args below meth c H locs tys ws ls C hK hP hD hE hS hB hl
  have C0 := C
  obtain ⟨hx, hb, hml, hr, hlk, hown, hts, hin, htab⟩ := C
  exact lv_aloadN hx hb hd (hl.at hg) (k p e s m args below meth c H locs tys ws ls C0 hK hP hD hE hS hB hl)
theorem x_iadd {x y : Int32} (hd : decode M.cd pc = .ok (.iadd, 1)) (k : X w M Q QX kc ns (pc + 1) L (.int (x + y) :: st) h) : X w M Q QX kc ns pc L (.int y :: .int x :: st) h := by
  intro p e s m args below meth c H locs tys ws ls C hK hP hD hE hS hB hl
  have C0 := C
  obtain ⟨hx, hb, hml, hr, hlk, hown, hts, hin, htab⟩ := C
  exact lv_iadd hx hb hd (k p e s m args below meth c H locs tys ws ls C0 hK hP hD hE hS hB hl)
theorem x_isub {x y : Int32} (hd : decode M.cd pc = .ok (.isub, 1)) (k : X w M Q QX kc ns (pc + 1) L (.int (x - y) :: st) h) : X w M Q QX kc ns pc L (.int y :: .int x :: st) h := by
  intro p e s m args below meth c H locs tys ws ls C hK hP hD hE hS hB hl
  have C0 := C
  obtain ⟨hx, hb, hml, hr, hlk, hown, hts, hin, htab⟩ := C
  exact lv_isub hx hb hd (k p e s m args below meth c H locs tys ws ls C0 hK hP hD hE hS hB hl)
theorem x_imul {x y : Int32} (hd : decode M.cd pc = .ok (.imul, 1)) (k : X w M Q QX kc ns (pc + 1) L (.int (x * y) :: st) h) : X w M Q QX kc ns pc L (.int y :: .int x :: st) h := by
  intro p e s m args below meth c H locs tys ws ls C hK hP hD hE hS hB hl
  have C0 := C
  obtain ⟨hx, hb, hml, hr, hlk, hown, hts, hin, htab⟩ := C
  exact lv_imul hx hb hd (k p e s m args below meth c H locs tys ws ls C0 hK hP hD hE hS hB hl)
theorem x_iand {x y : Int32} (hd : decode M.cd pc = .ok (.iand, 1)) (k : X w M Q QX kc ns (pc + 1) L (.int (x &&& y) :: st) h) : X w M Q QX kc ns pc L (.int y :: .int x :: st) h := by
  intro p e s m args below meth c H locs tys ws ls C hK hP hD hE hS hB hl
  have C0 := C
  obtain ⟨hx, hb, hml, hr, hlk, hown, hts, hin, htab⟩ := C
  exact lv_iand hx hb hd (k p e s m args below meth c H locs tys ws ls C0 hK hP hD hE hS hB hl)
theorem x_ior {x y : Int32} (hd : decode M.cd pc = .ok (.ior, 1)) (k : X w M Q QX kc ns (pc + 1) L (.int (x ||| y) :: st) h) : X w M Q QX kc ns pc L (.int y :: .int x :: st) h := by
  intro p e s m args below meth c H locs tys ws ls C hK hP hD hE hS hB hl
  have C0 := C
  obtain ⟨hx, hb, hml, hr, hlk, hown, hts, hin, htab⟩ := C
  exact lv_ior hx hb hd (k p e s m args below meth c H locs tys ws ls C0 hK hP hD hE hS hB hl)
theorem x_idiv {x y : Int32} (hd : decode M.cd pc = .ok (.idiv, 1)) (hne : ¬ y = 0) (k : X w M Q QX kc ns (pc + 1) L (.int (x / y) :: st) h) : X w M Q QX kc ns pc L (.int y :: .int x :: st) h := by
  intro p e s m args below meth c H locs tys ws ls C hK hP hD hE hS hB hl
  have C0 := C
  obtain ⟨hx, hb, hml, hr, hlk, hown, hts, hin, htab⟩ := C
  exact lv_idiv hx hb hd hne (k p e s m args below meth c H locs tys ws ls C0 hK hP hD hE hS hB hl)
theorem x_irem {x y : Int32} (hd : decode M.cd pc = .ok (.irem, 1)) (hne : ¬ y = 0) (k : X w M Q QX kc ns (pc + 1) L (.int (x - x / y * y) :: st) h) : X w M Q QX kc ns pc L (.int y :: .int x :: st) h := by
  intro p e s m args below meth c H locs tys ws ls C hK hP hD hE hS hB hl
  have C0 := C
  obtain ⟨hx, hb, hml, hr, hlk, hown, hts, hin, htab⟩ := C
  exact lv_irem hx hb hd hne (k p e s m args below meth c H locs tys ws ls C0 hK hP hD hE hS hB hl)
theorem x_ineg {x : Int32} (hd : decode M.cd pc = .ok (.ineg, 1)) (k : X w M Q QX kc ns (pc + 1) L (.int (-x) :: st) h) : X w M Q QX kc ns pc L (.int x :: st) h := by
  intro p e s m args below meth c H locs tys ws ls C hK hP hD hE hS hB hl
  have C0 := C
  obtain ⟨hx, hb, hml, hr, hlk, hown, hts, hin, htab⟩ := C
  exact lv_ineg hx hb hd (k p e s m args below meth c H locs tys ws ls C0 hK hP hD hE hS hB hl)
theorem x_iushr {x y : Int32} (hd : decode M.cd pc = .ok (.iushr, 1)) (k : X w M Q QX kc ns (pc + 1) L (.int (x.toUInt32 >>> (y.toUInt32 &&& Int32.toUInt32 31)).toInt32 :: st) h) : X w M Q QX kc ns pc L (.int y :: .int x :: st) h := by
  intro p e s m args below meth c H locs tys ws ls C hK hP hD hE hS hB hl
  have C0 := C
  obtain ⟨hx, hb, hml, hr, hlk, hown, hts, hin, htab⟩ := C
  exact lv_iushr hx hb hd rfl (k p e s m args below meth c H locs tys ws ls C0 hK hP hD hE hS hB hl)
theorem x_i2l {x : Int32} (hd : decode M.cd pc = .ok (.i2l, 1)) (k : X w M Q QX kc ns (pc + 1) L (.long x.toInt64 :: st) h) : X w M Q QX kc ns pc L (.int x :: st) h := by
  intro p e s m args below meth c H locs tys ws ls C hK hP hD hE hS hB hl
  have C0 := C
  obtain ⟨hx, hb, hml, hr, hlk, hown, hts, hin, htab⟩ := C
  exact lv_i2l hx hb hd rfl (k p e s m args below meth c H locs tys ws ls C0 hK hP hD hE hS hB hl)
theorem x_dup {va : Value} (hd : decode M.cd pc = .ok (.dup, 1)) (hva : va.category = 1) (k : X w M Q QX kc ns (pc + 1) L (va :: va :: st) h) : X w M Q QX kc ns pc L (va :: st) h := by
  intro p e s m args below meth c H locs tys ws ls C hK hP hD hE hS hB hl
  have C0 := C
  obtain ⟨hx, hb, hml, hr, hlk, hown, hts, hin, htab⟩ := C
  exact lv_dup hx hb hd hva (k p e s m args below meth c H locs tys ws ls C0 hK hP hD hE hS hB hl)
theorem x_dup2 {va vb : Value} (hd : decode M.cd pc = .ok (.dup2, 1)) (hva : va.category = 1) (hvb : vb.category = 1) (k : X w M Q QX kc ns (pc + 1) L (va :: vb :: va :: vb :: st) h) : X w M Q QX kc ns pc L (va :: vb :: st) h := by
  intro p e s m args below meth c H locs tys ws ls C hK hP hD hE hS hB hl
  have C0 := C
  obtain ⟨hx, hb, hml, hr, hlk, hown, hts, hin, htab⟩ := C
  exact lv_dup2_11 hx hb hd hva hvb (k p e s m args below meth c H locs tys ws ls C0 hK hP hD hE hS hB hl)
theorem x_pop {va : Value} (hd : decode M.cd pc = .ok (.pop, 1)) (hva : va.category = 1) (k : X w M Q QX kc ns (pc + 1) L st h) : X w M Q QX kc ns pc L (va :: st) h := by
  intro p e s m args below meth c H locs tys ws ls C hK hP hD hE hS hB hl
  have C0 := C
  obtain ⟨hx, hb, hml, hr, hlk, hown, hts, hin, htab⟩ := C
  exact lv_pop hx hb hd hva (k p e s m args below meth c H locs tys ws ls C0 hK hP hD hE hS hB hl)
theorem x_istore_n {i : Fin 4} {x : Int32} (hd : decode M.cd pc = .ok (.istore_n i, 1)) (hi : (i : Nat) < M.ml) (k : X w M Q QX kc ns (pc + 1) (L.set i (some (.int x))) st h) : X w M Q QX kc ns pc L (.int x :: st) h := by
  intro p e s m args below meth c H locs tys ws ls C hK hP hD hE hS hB hl
  have C0 := C
  obtain ⟨hx, hb, hml, hr, hlk, hown, hts, hin, htab⟩ := C
  exact lv_istore_n hx hb hd rfl hl.has hi rfl (fun ls' hl' => k p e s m args below meth c H locs tys ws ls' C0 hK hP hD hE hS hB (hl.put rfl hl'))
theorem x_istore {i : Nat} {x : Int32} (hd : decode M.cd pc = .ok (.istore i, 2)) (hi : i < M.ml) (k : X w M Q QX kc ns (pc + 2) (L.set i (some (.int x))) st h) : X w M Q QX kc ns pc L (.int x :: st) h := by
  intro p e s m args below meth c H locs tys ws ls C hK hP hD hE hS hB hl
  have C0 := C
  obtain ⟨hx, hb, hml, hr, hlk, hown, hts, hin, htab⟩ := C
  exact lv_istore hx hb hd hl.has hi rfl (fun ls' hl' => k p e s m args below meth c H locs tys ws ls' C0 hK hP hD hE hS hB (hl.put rfl hl'))
theorem x_astore_n {i : Fin 4} {x : Nat} (hd : decode M.cd pc = .ok (.astore_n i, 1)) (hi : (i : Nat) < M.ml) (k : X w M Q QX kc ns (pc + 1) (L.set i (some (.ref x))) st h) : X w M Q QX kc ns pc L (.ref x :: st) h := by
  intro p e s m args below meth c H locs tys ws ls C hK hP hD hE hS hB hl
  have C0 := C
  obtain ⟨hx, hb, hml, hr, hlk, hown, hts, hin, htab⟩ := C
  exact lv_astore_n hx hb hd rfl hl.has hi rfl (fun ls' hl' => k p e s m args below meth c H locs tys ws ls' C0 hK hP hD hE hS hB (hl.put rfl hl'))
theorem x_astore {i : Nat} {x : Nat} (hd : decode M.cd pc = .ok (.astore i, 2)) (hi : i < M.ml) (k : X w M Q QX kc ns (pc + 2) (L.set i (some (.ref x))) st h) : X w M Q QX kc ns pc L (.ref x :: st) h := by
  intro p e s m args below meth c H locs tys ws ls C hK hP hD hE hS hB hl
  have C0 := C
  obtain ⟨hx, hb, hml, hr, hlk, hown, hts, hin, htab⟩ := C
  exact lv_astore hx hb hd hl.has hi rfl (fun ls' hl' => k p e s m args below meth c H locs tys ws ls' C0 hK hP hD hE hS hB (hl.put rfl hl'))
theorem x_astoreN_n {i : Fin 4}  (hd : decode M.cd pc = .ok (.astore_n i, 1)) (hi : (i : Nat) < M.ml) (k : X w M Q QX kc ns (pc + 1) (L.set i (some (.null))) st h) : X w M Q QX kc ns pc L (.null :: st) h := by
  intro p e s m args below meth c H locs tys ws ls C hK hP hD hE hS hB hl
  have C0 := C
  obtain ⟨hx, hb, hml, hr, hlk, hown, hts, hin, htab⟩ := C
  exact lv_astore_nN hx hb hd rfl hl.has hi rfl (fun ls' hl' => k p e s m args below meth c H locs tys ws ls' C0 hK hP hD hE hS hB (hl.put rfl hl'))
theorem x_astoreN {i : Nat}  (hd : decode M.cd pc = .ok (.astore i, 2)) (hi : i < M.ml) (k : X w M Q QX kc ns (pc + 2) (L.set i (some (.null))) st h) : X w M Q QX kc ns pc L (.null :: st) h := by
  intro p e s m args below meth c H locs tys ws ls C hK hP hD hE hS hB hl
  have C0 := C
  obtain ⟨hx, hb, hml, hr, hlk, hown, hts, hin, htab⟩ := C
  exact lv_astoreN hx hb hd hl.has hi rfl (fun ls' hl' => k p e s m args below meth c H locs tys ws ls' C0 hK hP hD hE hS hB (hl.put rfl hl'))
theorem x_iinc {i : Nat} {n : Int} {x : Int32} (hd : decode M.cd pc = .ok (.iinc i n, 3)) (hg : L[i]? = some (some (.int x))) (k : X w M Q QX kc ns (pc + 3) (L.set i (some (.int (x + Int32.ofInt n)))) st h) : X w M Q QX kc ns pc L st h := by
  intro p e s m args below meth c H locs tys ws ls C hK hP hD hE hS hB hl
  have C0 := C
  obtain ⟨hx, hb, hml, hr, hlk, hown, hts, hin, htab⟩ := C
  obtain ⟨q, hq⟩ := LHp_idx hg
  have hi : i < M.ml := by rw [← hl.2.2.1]; exact (List.getElem?_eq_some_iff.mp hg).1
  exact lv_iinc hx hb hd hl.has hq rfl hi rfl (fun ls' hl' => k p e s m args below meth c H locs tys ws ls' C0 hK hP hD hE hS hB (hl.put rfl hl'))
theorem x_icmp_eq {x y : Int32} {off : Int} {tgt : Nat} (hd : decode M.cd pc = .ok (.if_icmp .eq off, 3)) (ht : (pc : Int) + off = (tgt : Int)) (kt : x = y → X w M Q QX kc ns tgt L st h) (kf : ¬ x = y → X w M Q QX kc ns (pc + 3) L st h) : X w M Q QX kc ns pc L (.int y :: .int x :: st) h := by
  intro p e s m args below meth c H locs tys ws ls C hK hP hD hE hS hB hl
  have C0 := C
  obtain ⟨hx, hb, hml, hr, hlk, hown, hts, hin, htab⟩ := C
  exact lv_icmp_eq hx hb hd ht (fun z => kt z p e s m args below meth c H locs tys ws ls C0 hK hP hD hE hS hB hl) (fun z => kf z p e s m args below meth c H locs tys ws ls C0 hK hP hD hE hS hB hl)
theorem x_icmp_ne {x y : Int32} {off : Int} {tgt : Nat} (hd : decode M.cd pc = .ok (.if_icmp .ne off, 3)) (ht : (pc : Int) + off = (tgt : Int)) (kt : ¬ x = y → X w M Q QX kc ns tgt L st h) (kf : x = y → X w M Q QX kc ns (pc + 3) L st h) : X w M Q QX kc ns pc L (.int y :: .int x :: st) h := by
  intro p e s m args below meth c H locs tys ws ls C hK hP hD hE hS hB hl
  have C0 := C
  obtain ⟨hx, hb, hml, hr, hlk, hown, hts, hin, htab⟩ := C
  exact lv_icmp_ne hx hb hd ht (fun z => kt z p e s m args below meth c H locs tys ws ls C0 hK hP hD hE hS hB hl) (fun z => kf z p e s m args below meth c H locs tys ws ls C0 hK hP hD hE hS hB hl)
theorem x_icmp_lt {x y : Int32} {off : Int} {tgt : Nat} (hd : decode M.cd pc = .ok (.if_icmp .lt off, 3)) (ht : (pc : Int) + off = (tgt : Int)) (kt : x < y → X w M Q QX kc ns tgt L st h) (kf : ¬ x < y → X w M Q QX kc ns (pc + 3) L st h) : X w M Q QX kc ns pc L (.int y :: .int x :: st) h := by
  intro p e s m args below meth c H locs tys ws ls C hK hP hD hE hS hB hl
  have C0 := C
  obtain ⟨hx, hb, hml, hr, hlk, hown, hts, hin, htab⟩ := C
  exact lv_icmp_lt hx hb hd ht (fun z => kt z p e s m args below meth c H locs tys ws ls C0 hK hP hD hE hS hB hl) (fun z => kf z p e s m args below meth c H locs tys ws ls C0 hK hP hD hE hS hB hl)
theorem x_icmp_ge {x y : Int32} {off : Int} {tgt : Nat} (hd : decode M.cd pc = .ok (.if_icmp .ge off, 3)) (ht : (pc : Int) + off = (tgt : Int)) (kt : y ≤ x → X w M Q QX kc ns tgt L st h) (kf : ¬ y ≤ x → X w M Q QX kc ns (pc + 3) L st h) : X w M Q QX kc ns pc L (.int y :: .int x :: st) h := by
  intro p e s m args below meth c H locs tys ws ls C hK hP hD hE hS hB hl
  have C0 := C
  obtain ⟨hx, hb, hml, hr, hlk, hown, hts, hin, htab⟩ := C
  exact lv_icmp_ge hx hb hd ht (fun z => kt z p e s m args below meth c H locs tys ws ls C0 hK hP hD hE hS hB hl) (fun z => kf z p e s m args below meth c H locs tys ws ls C0 hK hP hD hE hS hB hl)
theorem x_icmp_gt {x y : Int32} {off : Int} {tgt : Nat} (hd : decode M.cd pc = .ok (.if_icmp .gt off, 3)) (ht : (pc : Int) + off = (tgt : Int)) (kt : y < x → X w M Q QX kc ns tgt L st h) (kf : ¬ y < x → X w M Q QX kc ns (pc + 3) L st h) : X w M Q QX kc ns pc L (.int y :: .int x :: st) h := by
  intro p e s m args below meth c H locs tys ws ls C hK hP hD hE hS hB hl
  have C0 := C
  obtain ⟨hx, hb, hml, hr, hlk, hown, hts, hin, htab⟩ := C
  exact lv_icmp_gt hx hb hd ht (fun z => kt z p e s m args below meth c H locs tys ws ls C0 hK hP hD hE hS hB hl) (fun z => kf z p e s m args below meth c H locs tys ws ls C0 hK hP hD hE hS hB hl)
theorem x_icmp_le {x y : Int32} {off : Int} {tgt : Nat} (hd : decode M.cd pc = .ok (.if_icmp .le off, 3)) (ht : (pc : Int) + off = (tgt : Int)) (kt : x ≤ y → X w M Q QX kc ns tgt L st h) (kf : ¬ x ≤ y → X w M Q QX kc ns (pc + 3) L st h) : X w M Q QX kc ns pc L (.int y :: .int x :: st) h := by
  intro p e s m args below meth c H locs tys ws ls C hK hP hD hE hS hB hl
  have C0 := C
  obtain ⟨hx, hb, hml, hr, hlk, hown, hts, hin, htab⟩ := C
  exact lv_icmp_le hx hb hd ht (fun z => kt z p e s m args below meth c H locs tys ws ls C0 hK hP hD hE hS hB hl) (fun z => kf z p e s m args below meth c H locs tys ws ls C0 hK hP hD hE hS hB hl)
theorem x_if_eq {x : Int32} {off : Int} {tgt : Nat} (hd : decode M.cd pc = .ok (.ifCond .eq off, 3)) (ht : (pc : Int) + off = (tgt : Int)) (kt : x = 0 → X w M Q QX kc ns tgt L st h) (kf : ¬ x = 0 → X w M Q QX kc ns (pc + 3) L st h) : X w M Q QX kc ns pc L (.int x :: st) h := by
  intro p e s m args below meth c H locs tys ws ls C hK hP hD hE hS hB hl
  have C0 := C
  obtain ⟨hx, hb, hml, hr, hlk, hown, hts, hin, htab⟩ := C
  exact lv_if_eq hx hb hd ht (fun z => kt z p e s m args below meth c H locs tys ws ls C0 hK hP hD hE hS hB hl) (fun z => kf z p e s m args below meth c H locs tys ws ls C0 hK hP hD hE hS hB hl)
theorem x_if_ne {x : Int32} {off : Int} {tgt : Nat} (hd : decode M.cd pc = .ok (.ifCond .ne off, 3)) (ht : (pc : Int) + off = (tgt : Int)) (kt : ¬ x = 0 → X w M Q QX kc ns tgt L st h) (kf : x = 0 → X w M Q QX kc ns (pc + 3) L st h) : X w M Q QX kc ns pc L (.int x :: st) h := by
  intro p e s m args below meth c H locs tys ws ls C hK hP hD hE hS hB hl
  have C0 := C
  obtain ⟨hx, hb, hml, hr, hlk, hown, hts, hin, htab⟩ := C
  exact lv_if_ne hx hb hd ht (fun z => kt z p e s m args below meth c H locs tys ws ls C0 hK hP hD hE hS hB hl) (fun z => kf z p e s m args below meth c H locs tys ws ls C0 hK hP hD hE hS hB hl)
theorem x_if_lt {x : Int32} {off : Int} {tgt : Nat} (hd : decode M.cd pc = .ok (.ifCond .lt off, 3)) (ht : (pc : Int) + off = (tgt : Int)) (kt : x < 0 → X w M Q QX kc ns tgt L st h) (kf : ¬ x < 0 → X w M Q QX kc ns (pc + 3) L st h) : X w M Q QX kc ns pc L (.int x :: st) h := by
  intro p e s m args below meth c H locs tys ws ls C hK hP hD hE hS hB hl
  have C0 := C
  obtain ⟨hx, hb, hml, hr, hlk, hown, hts, hin, htab⟩ := C
  exact lv_if_lt hx hb hd ht (fun z => kt z p e s m args below meth c H locs tys ws ls C0 hK hP hD hE hS hB hl) (fun z => kf z p e s m args below meth c H locs tys ws ls C0 hK hP hD hE hS hB hl)
theorem x_if_ge {x : Int32} {off : Int} {tgt : Nat} (hd : decode M.cd pc = .ok (.ifCond .ge off, 3)) (ht : (pc : Int) + off = (tgt : Int)) (kt : 0 ≤ x → X w M Q QX kc ns tgt L st h) (kf : ¬ 0 ≤ x → X w M Q QX kc ns (pc + 3) L st h) : X w M Q QX kc ns pc L (.int x :: st) h := by
  intro p e s m args below meth c H locs tys ws ls C hK hP hD hE hS hB hl
  have C0 := C
  obtain ⟨hx, hb, hml, hr, hlk, hown, hts, hin, htab⟩ := C
  exact lv_if_ge hx hb hd ht (fun z => kt z p e s m args below meth c H locs tys ws ls C0 hK hP hD hE hS hB hl) (fun z => kf z p e s m args below meth c H locs tys ws ls C0 hK hP hD hE hS hB hl)
theorem x_if_gt {x : Int32} {off : Int} {tgt : Nat} (hd : decode M.cd pc = .ok (.ifCond .gt off, 3)) (ht : (pc : Int) + off = (tgt : Int)) (kt : 0 < x → X w M Q QX kc ns tgt L st h) (kf : ¬ 0 < x → X w M Q QX kc ns (pc + 3) L st h) : X w M Q QX kc ns pc L (.int x :: st) h := by
  intro p e s m args below meth c H locs tys ws ls C hK hP hD hE hS hB hl
  have C0 := C
  obtain ⟨hx, hb, hml, hr, hlk, hown, hts, hin, htab⟩ := C
  exact lv_if_gt hx hb hd ht (fun z => kt z p e s m args below meth c H locs tys ws ls C0 hK hP hD hE hS hB hl) (fun z => kf z p e s m args below meth c H locs tys ws ls C0 hK hP hD hE hS hB hl)
theorem x_if_le {x : Int32} {off : Int} {tgt : Nat} (hd : decode M.cd pc = .ok (.ifCond .le off, 3)) (ht : (pc : Int) + off = (tgt : Int)) (kt : x ≤ 0 → X w M Q QX kc ns tgt L st h) (kf : ¬ x ≤ 0 → X w M Q QX kc ns (pc + 3) L st h) : X w M Q QX kc ns pc L (.int x :: st) h := by
  intro p e s m args below meth c H locs tys ws ls C hK hP hD hE hS hB hl
  have C0 := C
  obtain ⟨hx, hb, hml, hr, hlk, hown, hts, hin, htab⟩ := C
  exact lv_if_le hx hb hd ht (fun z => kt z p e s m args below meth c H locs tys ws ls C0 hK hP hD hE hS hB hl) (fun z => kf z p e s m args below meth c H locs tys ws ls C0 hK hP hD hE hS hB hl)
theorem x_acmp_ne {rx ry : Option Nat} {off : Int} {tgt : Nat} (hd : decode M.cd pc = .ok (.if_acmp .ne off, 3)) (ht : (pc : Int) + off = (tgt : Int)) (kt : ¬ rx = ry → X w M Q QX kc ns tgt L st h) (kf : rx = ry → X w M Q QX kc ns (pc + 3) L st h) : X w M Q QX kc ns pc L (va_rf ry :: va_rf rx :: st) h := by
  intro p e s m args below meth c H locs tys ws ls C hK hP hD hE hS hB hl
  have C0 := C
  obtain ⟨hx, hb, hml, hr, hlk, hown, hts, hin, htab⟩ := C
  exact lv_acmp_ne hx hb hd ht (fun z => kt z p e s m args below meth c H locs tys ws ls C0 hK hP hD hE hS hB hl) (fun z => kf z p e s m args below meth c H locs tys ws ls C0 hK hP hD hE hS hB hl)
theorem x_goto {off : Int} {tgt : Nat} (hd : decode M.cd pc = .ok (.goto off, 3)) (ht : (pc : Int) + off = (tgt : Int)) (k : X w M Q QX kc ns tgt L st h) : X w M Q QX kc ns pc L st h := by
  intro p e s m args below meth c H locs tys ws ls C hK hP hD hE hS hB hl
  have C0 := C
  obtain ⟨hx, hb, hml, hr, hlk, hown, hts, hin, htab⟩ := C
  exact lv_goto hx hb hd ht (k p e s m args below meth c H locs tys ws ls C0 hK hP hD hE hS hB hl)
theorem x_ifnull {x : Nat} {off : Int} (hd : decode M.cd pc = .ok (.ifnull off, 3)) (k : X w M Q QX kc ns (pc + 3) L st h) : X w M Q QX kc ns pc L (.ref x :: st) h := by
  intro p e s m args below meth c H locs tys ws ls C hK hP hD hE hS hB hl
  have C0 := C
  obtain ⟨hx, hb, hml, hr, hlk, hown, hts, hin, htab⟩ := C
  exact lv_ifnull hx hb hd (k p e s m args below meth c H locs tys ws ls C0 hK hP hD hE hS hB hl)
theorem x_ifnullN {off : Int} {tgt : Nat} (hd : decode M.cd pc = .ok (.ifnull off, 3)) (ht : (pc : Int) + off = (tgt : Int)) (k : X w M Q QX kc ns tgt L st h) : X w M Q QX kc ns pc L (.null :: st) h := by
  intro p e s m args below meth c H locs tys ws ls C hK hP hD hE hS hB hl
  have C0 := C
  obtain ⟨hx, hb, hml, hr, hlk, hown, hts, hin, htab⟩ := C
  exact lv_ifnullN hx hb hd ht (k p e s m args below meth c H locs tys ws ls C0 hK hP hD hE hS hB hl)
theorem x_ifnonnull {x : Nat} {off : Int} {tgt : Nat} (hd : decode M.cd pc = .ok (.ifnonnull off, 3)) (ht : (pc : Int) + off = (tgt : Int)) (k : X w M Q QX kc ns tgt L st h) : X w M Q QX kc ns pc L (.ref x :: st) h := by
  intro p e s m args below meth c H locs tys ws ls C hK hP hD hE hS hB hl
  have C0 := C
  obtain ⟨hx, hb, hml, hr, hlk, hown, hts, hin, htab⟩ := C
  exact lv_ifnonnull hx hb hd ht (k p e s m args below meth c H locs tys ws ls C0 hK hP hD hE hS hB hl)
theorem x_ifnonnullN {off : Int} (hd : decode M.cd pc = .ok (.ifnonnull off, 3)) (k : X w M Q QX kc ns (pc + 3) L st h) : X w M Q QX kc ns pc L (.null :: st) h := by
  intro p e s m args below meth c H locs tys ws ls C hK hP hD hE hS hB hl
  have C0 := C
  obtain ⟨hx, hb, hml, hr, hlk, hown, hts, hin, htab⟩ := C
  exact lv_ifnonnullN hx hb hd (k p e s m args below meth c H locs tys ws ls C0 hK hP hD hE hS hB hl)
theorem x_tabIn {dflt lo hi : Int} {offs : Array Int} {len tgt : Nat} {x : Int32} {off : Int} (hd : decode M.cd pc = .ok (.tableswitch dflt lo hi offs, len)) (h1 : ¬ x.toInt < lo) (h2 : ¬ hi < x.toInt) (ho : offs[(x.toInt - lo).toNat]? = some off) (ht : (pc : Int) + off = (tgt : Int)) (k : X w M Q QX kc ns tgt L st h) : X w M Q QX kc ns pc L (.int x :: st) h := by
  intro p e s m args below meth c H locs tys ws ls C hK hP hD hE hS hB hl
  have C0 := C
  obtain ⟨hx, hb, hml, hr, hlk, hown, hts, hin, htab⟩ := C
  exact lv_tableIn hx hb hd h1 h2 ho ht (k p e s m args below meth c H locs tys ws ls C0 hK hP hD hE hS hB hl)
theorem x_tabOut {dflt lo hi : Int} {offs : Array Int} {len tgt : Nat} {x : Int32} (hd : decode M.cd pc = .ok (.tableswitch dflt lo hi offs, len)) (h1 : x.toInt < lo ∨ hi < x.toInt) (ht : (pc : Int) + dflt = (tgt : Int)) (k : X w M Q QX kc ns tgt L st h) : X w M Q QX kc ns pc L (.int x :: st) h := by
  intro p e s m args below meth c H locs tys ws ls C hK hP hD hE hS hB hl
  have C0 := C
  obtain ⟨hx, hb, hml, hr, hlk, hown, hts, hin, htab⟩ := C
  exact lv_tableOut hx hb hd h1 ht (k p e s m args below meth c H locs tys ws ls C0 hK hP hD hE hS hB hl)
theorem x_ldc {idx : Nat} {v : Int32} (hd : decode M.cd pc = .ok (.ldc idx, 2)) (hc : Cond.constant M.ow idx v ∈ TB) (k : X w M Q QX kc ns (pc + 2) L (.int v :: st) h) : X w M Q QX kc ns pc L st h := by
  intro p e s m args below meth c H locs tys ws ls C hK hP hD hE hS hB hl
  have C0 := C
  obtain ⟨hx, hb, hml, hr, hlk, hown, hts, hin, htab⟩ := C
  exact lv_ldc hx hb hown (hts _ hc) hd (k p e s m args below meth c H locs tys ws ls C0 hK hP hD hE hS hB hl)
end XR
end
section

/-! HEAP RULES, CALLS, ENDS, CONTRACTS -/
theorem Em.obj {tys : List (ClassId × FieldType)} {ws : va_W} {h : AH} {a ci : Nat} {ks : List Bool} (hE : Em tys ws h) (ht : gT h a = ci + 1) (hc : clsL[ci]? = some ks) (h10 : ci < 10) : ∃ q0 : Nat, ws[q0]? = some (a, .inr (ci, encF h a 0 ks)) := by
  obtain ⟨q0, e, h1, h2⟩ := hE.1 a (by omega)
  rcases h2 with ⟨ci', ks', g1, g2, g3, g4⟩ | ⟨cA, t0, g1, g2, -, -⟩
  · have hcc : ci' = ci := by omega
    subst hcc
    rw [hc] at g3
    cases g3
    exact ⟨q0, by rw [h1, g4]⟩
  · omega
theorem Em.arr {tys : List (ClassId × FieldType)} {ws : va_W} {h : AH} {a : Nat} (hE : Em tys ws h) (h1 : 11 ≤ gT h a) : ∃ (q0 : Nat) (cA : ClassId) (t0 : Nat), gT h a ≤ 17 ∧ ws[q0]? = some (a, .inl (cA, encA h a)) ∧ tys[t0]? = some (cA, ety (gT h a)) := by
  obtain ⟨q0, e, g1, g2⟩ := hE.1 a (by omega)
  rcases g2 with ⟨ci', ks', g3, g4, -, -⟩ | ⟨cA, t0, g3, g4, g5, g6⟩
  · omega
  · exact ⟨q0, cA, t0, g4, by rw [g1, g6], g5⟩
theorem encA_I {h : AH} {a : Nat} (ht : gT h a = 11) : encA h a = (gN h a, .inl (gI h a)) := by simp [encA, ht]
theorem encA_Z {h : AH} {a : Nat} (ht : gT h a = 12) : encA h a = (gN h a, .inl (gI h a)) := by simp [encA, ht]
theorem encA_L {h : AH} {a : Nat} (ht : gT h a = 13) : encA h a = (gN h a, .inr (.inl (gL h a))) := by simp [encA, ht]
theorem encA_R {h : AH} {a : Nat} (h1 : 14 ≤ gT h a) : encA h a = (gN h a, .inr (.inr (.inr (.inr (gR h a))))) := by
  unfold encA
  split
  · omega
  · omega
  · omega
  · rfl
theorem goodTB {ws : List Cond} (h : ∀ t ∈ ws, t ∈ TB) : GoodIn TB ws := fun t ht => ⟨h t ht, good_of_word (TB_good (h t ht))⟩
section XH
variable {w : W0} {M : MI} {Q : Option Value → AH → Prop} {QX : String → AH → Prop} {kc ns pc : Nat} {L : List (Option Value)} {st : List Value} {h : AH}
theorem x_getI {idx ci kf a : Nat} (hd : decode M.cd pc = .ok (.getfield idx, 3)) (hf : FG M.ow idx ci kf) (hk : (clsL.getD ci [])[kf]? = some false) (ht : gT h a = ci + 1) (k : X w M Q QX kc ns (pc + 3) L (.int (gI h a kf) :: st) h) : X w M Q QX kc ns pc L (.ref a :: st) h := by
  intro p e s m args below meth c H locs tys ws ls C hK hP hD hE hS hB hl
  have C0 := C
  obtain ⟨hx, hb, hml, hr, hlk, hown, hts, hin, htab⟩ := C
  obtain ⟨Cn, T, N, ty, ks, ⟨c1, c2, c3, c4, c5, c6, c7, c8⟩, hkN, hlink⟩ := hf
  obtain ⟨q0, he⟩ := hE.obj ht c5 c7
  refine va_get (D := w.dg) (ci := ci) (v := .int (gI h a kf)) hx hb hts c2 hown hK hP q0 he c1 kf hkN (hts _ hlink) (fun _ z => z) ?_ hd (k p e s m args below meth c H locs tys ws ls C0 hK hP hD hE hS hB hl)
  have hk2 : ks[kf]? = some false := by simpa [List.getD_eq_getElem?_getD, c5] using hk
  simpa using encF_get h a ks 0 kf false hk2
theorem x_getR {idx ci kf a : Nat} (hd : decode M.cd pc = .ok (.getfield idx, 3)) (hf : FG M.ow idx ci kf) (hk : (clsL.getD ci [])[kf]? = some true) (ht : gT h a = ci + 1) (k : X w M Q QX kc ns (pc + 3) L (va_rf (gR h a kf) :: st) h) : X w M Q QX kc ns pc L (.ref a :: st) h := by
  intro p e s m args below meth c H locs tys ws ls C hK hP hD hE hS hB hl
  have C0 := C
  obtain ⟨hx, hb, hml, hr, hlk, hown, hts, hin, htab⟩ := C
  obtain ⟨Cn, T, N, ty, ks, ⟨c1, c2, c3, c4, c5, c6, c7, c8⟩, hkN, hlink⟩ := hf
  obtain ⟨q0, he⟩ := hE.obj ht c5 c7
  refine va_get (D := w.dg) (ci := ci) (v := va_rf (gR h a kf)) hx hb hts c2 hown hK hP q0 he c1 kf hkN (hts _ hlink) (fun _ z => z) ?_ hd (k p e s m args below meth c H locs tys ws ls C0 hK hP hD hE hS hB hl)
  have hk2 : ks[kf]? = some true := by simpa [List.getD_eq_getElem?_getD, c5] using hk
  simpa using encF_get h a ks 0 kf true hk2
theorem Em.putI {tys : List (ClassId × FieldType)} {ws : va_W} {q0 a ci kf : Nat} {v : Int32} {ks : List Bool} {h : AH} (hE : Em tys ws h) (he : ws[q0]? = some (a, .inr (ci, encF h a 0 ks))) (ht : gT h a = ci + 1) (c5 : clsL[ci]? = some ks) (c7 : ci < 10) (hk : ks[kf]? = some false) :
    Em tys (ws.set q0 (a, .inr (ci, (encF h a 0 ks).set kf (.int v)))) (sI h a kf v) := by
  have e := encF_setI (h := h) (a := a) (v := v) ks 0 kf hk
  rw [Nat.zero_add] at e
  rw [e]
  exact hE.upd he (fun _ => rfl) (fun b hb e he => he.cong (h := h) (h' := sI h a kf v) rfl rfl (fun j => by rw [gI_sI, if_neg (fun z => hb z.1)]) (fun _ => rfl) (fun _ => rfl)) (Or.inl ⟨ci, ks, ht, c7, c5, rfl⟩)
theorem Em.putR {tys : List (ClassId × FieldType)} {ws : va_W} {q0 a ci kf : Nat} {v : Option Nat} {ks : List Bool} {h : AH} (hE : Em tys ws h) (he : ws[q0]? = some (a, .inr (ci, encF h a 0 ks))) (ht : gT h a = ci + 1) (c5 : clsL[ci]? = some ks) (c7 : ci < 10) (hk : ks[kf]? = some true) :
    Em tys (ws.set q0 (a, .inr (ci, (encF h a 0 ks).set kf (va_rf v)))) (sR h a kf v) := by
  have e := encF_setR (h := h) (a := a) (v := v) ks 0 kf hk
  rw [Nat.zero_add] at e
  rw [e]
  exact hE.upd he (fun _ => rfl) (fun b hb e he => he.cong (h := h) (h' := sR h a kf v) rfl rfl (fun _ => rfl) (fun j => by rw [gR_sR, if_neg (fun z => hb z.1)]) (fun _ => rfl)) (Or.inl ⟨ci, ks, ht, c7, c5, rfl⟩)
theorem x_putI {idx ci kf a : Nat} {v : Int32} (hd : decode M.cd pc = .ok (.putfield idx, 3)) (hf : FP M.ow idx ci kf false .int) (hk : (clsL.getD ci [])[kf]? = some false) (ht : gT h a = ci + 1) (k : X w M Q QX kc ns (pc + 3) L st (sI h a kf v)) : X w M Q QX kc ns pc L (.int v :: .ref a :: st) h := by
  intro p e s m args below meth c H locs tys ws ls C hK hP hD hE hS hB hl
  have C0 := C
  obtain ⟨hx, hb, hml, hr, hlk, hown, hts, hin, htab⟩ := C
  obtain ⟨Cn, T, N, ty, ks, ⟨c1, c2, c3, c4, c5, c6, c7, c8⟩, hkN, hlink, hfin, hty, hdecl⟩ := hf
  obtain ⟨q0, he⟩ := hE.obj ht c5 c7
  have hk2 : ks[kf]? = some false := by simpa [List.getD_eq_getElem?_getD, c5] using hk
  have hnf : narrow .int (.int v) = .int v ∧ fits .int (.int v) = true := ⟨rfl, rfl⟩
  refine va_put (D := w.dg) (ci := ci) (v := .int v) (ty := .int) hx hb hts c2 ty c3 c4 hown hK hP hD hS q0 he c1 kf hkN (hts _ hlink) (fun _ z => z) hfin (by rw [c3 kf hkN, hty]) hnf.1 hnf.2 (by rw [encF_len, c6]; exact hkN) hd (fun H1 locs1 hP1 hD1 hS1 => ?_)
  exact k p e s m args below meth c H1 locs1 tys _ ls C0 hK hP1 hD1 (hE.putI he ht c5 c7 hk2) hS1 hB hl
theorem x_putZ {idx ci kf a : Nat} {v : Int32} (hd : decode M.cd pc = .ok (.putfield idx, 3)) (hf : FP M.ow idx ci kf false .boolean) (hk : (clsL.getD ci [])[kf]? = some false) (ht : gT h a = ci + 1) (hv : v = 0 ∨ v = 1) (k : X w M Q QX kc ns (pc + 3) L st (sI h a kf v)) : X w M Q QX kc ns pc L (.int v :: .ref a :: st) h := by
  intro p e s m args below meth c H locs tys ws ls C hK hP hD hE hS hB hl
  have C0 := C
  obtain ⟨hx, hb, hml, hr, hlk, hown, hts, hin, htab⟩ := C
  obtain ⟨Cn, T, N, ty, ks, ⟨c1, c2, c3, c4, c5, c6, c7, c8⟩, hkN, hlink, hfin, hty, hdecl⟩ := hf
  obtain ⟨q0, he⟩ := hE.obj ht c5 c7
  have hk2 : ks[kf]? = some false := by simpa [List.getD_eq_getElem?_getD, c5] using hk
  have hnf : narrow .boolean (.int v) = .int v ∧ fits .boolean (.int v) = true := by rcases hv with rfl | rfl <;> exact ⟨by decide, by decide⟩
  refine va_put (D := w.dg) (ci := ci) (v := .int v) (ty := .boolean) hx hb hts c2 ty c3 c4 hown hK hP hD hS q0 he c1 kf hkN (hts _ hlink) (fun _ z => z) hfin (by rw [c3 kf hkN, hty]) hnf.1 hnf.2 (by rw [encF_len, c6]; exact hkN) hd (fun H1 locs1 hP1 hD1 hS1 => ?_)
  exact k p e s m args below meth c H1 locs1 tys _ ls C0 hK hP1 hD1 (hE.putI he ht c5 c7 hk2) hS1 hB hl
theorem x_putR {idx ci kf a : Nat} {v : Option Nat} {Cl : String} (hd : decode M.cd pc = .ok (.putfield idx, 3)) (hf : FP M.ow idx ci kf false (.object Cl)) (hk : (clsL.getD ci [])[kf]? = some true) (ht : gT h a = ci + 1) (k : X w M Q QX kc ns (pc + 3) L st (sR h a kf v)) : X w M Q QX kc ns pc L (va_rf v :: .ref a :: st) h := by
  intro p e s m args below meth c H locs tys ws ls C hK hP hD hE hS hB hl
  have C0 := C
  obtain ⟨hx, hb, hml, hr, hlk, hown, hts, hin, htab⟩ := C
  obtain ⟨Cn, T, N, ty, ks, ⟨c1, c2, c3, c4, c5, c6, c7, c8⟩, hkN, hlink, hfin, hty, hdecl⟩ := hf
  obtain ⟨q0, he⟩ := hE.obj ht c5 c7
  have hk2 : ks[kf]? = some true := by simpa [List.getD_eq_getElem?_getD, c5] using hk
  have hnf : narrow (.object Cl) (va_rf v) = va_rf v ∧ fits (.object Cl) (va_rf v) = true := by cases v <;> exact ⟨rfl, rfl⟩
  refine va_put (D := w.dg) (ci := ci) (v := va_rf v) (ty := (.object Cl)) hx hb hts c2 ty c3 c4 hown hK hP hD hS q0 he c1 kf hkN (hts _ hlink) (fun _ z => z) hfin (by rw [c3 kf hkN, hty]) hnf.1 hnf.2 (by rw [encF_len, c6]; exact hkN) hd (fun H1 locs1 hP1 hD1 hS1 => ?_)
  exact k p e s m args below meth c H1 locs1 tys _ ls C0 hK hP1 hD1 (hE.putR he ht c5 c7 hk2) hS1 hB hl
theorem x_putFI {idx ci kf a : Nat} {v : Int32} (hd : decode M.cd pc = .ok (.putfield idx, 3)) (hf : FP M.ow idx ci kf true .int) (hk : (clsL.getD ci [])[kf]? = some false) (ht : gT h a = ci + 1) (hii : M.ii = true) (k : X w M Q QX kc ns (pc + 3) L st (sI h a kf v)) : X w M Q QX kc ns pc L (.int v :: .ref a :: st) h := by
  intro p e s m args below meth c H locs tys ws ls C hK hP hD hE hS hB hl
  have C0 := C
  obtain ⟨hx, hb, hml, hr, hlk, hown, hts, hin, htab⟩ := C
  obtain ⟨Cn, T, N, ty, ks, ⟨c1, c2, c3, c4, c5, c6, c7, c8⟩, hkN, hlink, hfin, hty, hdecl⟩ := hf
  obtain ⟨q0, he⟩ := hE.obj ht c5 c7
  have hk2 : ks[kf]? = some false := by simpa [List.getD_eq_getElem?_getD, c5] using hk
  have hnf : narrow .int (.int v) = .int v ∧ fits .int (.int v) = true := ⟨rfl, rfl⟩
  refine va_putF (D := w.dg) (ci := ci) (v := .int v) (ty := .int) hx hb hts c2 ty c3 c4 hown hK hP hD hS q0 he c1 kf hkN (hts _ hlink) (fun _ z => z) hfin (hin hii) (hdecl rfl) (by rw [c3 kf hkN, hty]) hnf.1 hnf.2 (by rw [encF_len, c6]; exact hkN) hd (fun H1 locs1 hP1 hD1 hS1 => ?_)
  exact k p e s m args below meth c H1 locs1 tys _ ls C0 hK hP1 hD1 (hE.putI he ht c5 c7 hk2) hS1 hB hl
theorem x_putFR {idx ci kf a : Nat} {v : Option Nat} {Cl : String} (hd : decode M.cd pc = .ok (.putfield idx, 3)) (hf : FP M.ow idx ci kf true (.object Cl)) (hk : (clsL.getD ci [])[kf]? = some true) (ht : gT h a = ci + 1) (hii : M.ii = true) (k : X w M Q QX kc ns (pc + 3) L st (sR h a kf v)) : X w M Q QX kc ns pc L (va_rf v :: .ref a :: st) h := by
  intro p e s m args below meth c H locs tys ws ls C hK hP hD hE hS hB hl
  have C0 := C
  obtain ⟨hx, hb, hml, hr, hlk, hown, hts, hin, htab⟩ := C
  obtain ⟨Cn, T, N, ty, ks, ⟨c1, c2, c3, c4, c5, c6, c7, c8⟩, hkN, hlink, hfin, hty, hdecl⟩ := hf
  obtain ⟨q0, he⟩ := hE.obj ht c5 c7
  have hk2 : ks[kf]? = some true := by simpa [List.getD_eq_getElem?_getD, c5] using hk
  have hnf : narrow (.object Cl) (va_rf v) = va_rf v ∧ fits (.object Cl) (va_rf v) = true := by cases v <;> exact ⟨rfl, rfl⟩
  refine va_putF (D := w.dg) (ci := ci) (v := va_rf v) (ty := (.object Cl)) hx hb hts c2 ty c3 c4 hown hK hP hD hS q0 he c1 kf hkN (hts _ hlink) (fun _ z => z) hfin (hin hii) (hdecl rfl) (by rw [c3 kf hkN, hty]) hnf.1 hnf.2 (by rw [encF_len, c6]; exact hkN) hd (fun H1 locs1 hP1 hD1 hS1 => ?_)
  exact k p e s m args below meth c H1 locs1 tys _ ls C0 hK hP1 hD1 (hE.putR he ht c5 c7 hk2) hS1 hB hl
theorem x_putFA {idx ci kf a : Nat} {v : Option Nat} {Ta : FieldType} (hd : decode M.cd pc = .ok (.putfield idx, 3)) (hf : FP M.ow idx ci kf true (.array Ta)) (hk : (clsL.getD ci [])[kf]? = some true) (ht : gT h a = ci + 1) (hii : M.ii = true) (k : X w M Q QX kc ns (pc + 3) L st (sR h a kf v)) : X w M Q QX kc ns pc L (va_rf v :: .ref a :: st) h := by
  intro p e s m args below meth c H locs tys ws ls C hK hP hD hE hS hB hl
  have C0 := C
  obtain ⟨hx, hb, hml, hr, hlk, hown, hts, hin, htab⟩ := C
  obtain ⟨Cn, T, N, ty, ks, ⟨c1, c2, c3, c4, c5, c6, c7, c8⟩, hkN, hlink, hfin, hty, hdecl⟩ := hf
  obtain ⟨q0, he⟩ := hE.obj ht c5 c7
  have hk2 : ks[kf]? = some true := by simpa [List.getD_eq_getElem?_getD, c5] using hk
  have hnf : narrow (.array Ta) (va_rf v) = va_rf v ∧ fits (.array Ta) (va_rf v) = true := by cases v <;> exact ⟨rfl, rfl⟩
  refine va_putF (D := w.dg) (ci := ci) (v := va_rf v) (ty := (.array Ta)) hx hb hts c2 ty c3 c4 hown hK hP hD hS q0 he c1 kf hkN (hts _ hlink) (fun _ z => z) hfin (hin hii) (hdecl rfl) (by rw [c3 kf hkN, hty]) hnf.1 hnf.2 (by rw [encF_len, c6]; exact hkN) hd (fun H1 locs1 hP1 hD1 hS1 => ?_)
  exact k p e s m args below meth c H1 locs1 tys _ ls C0 hK hP1 hD1 (hE.putR he ht c5 c7 hk2) hS1 hB hl

theorem encF_new {h : AH} {q t n : Nat} : ∀ (ks : List Bool) (k0 : Nat), encF (nO h q t n) q k0 ks = ks.map (fun b => if b then Value.null else .int 0)
  | [], _ => rfl
  | b :: r, k0 => by
    cases b <;> simp [encF, encF_new r, gI_nO, gR_nO, va_rf]
theorem x_new {idx ci N : Nat} {Cl : String} {T : u_T} {ty : Nat → FieldType} {ks : List Bool} (hd : decode M.cd pc = .ok (.new idx, 3)) (hci : CI ci Cl T N ty ks) (hcl : Cond.classLink M.ow idx Cl ∈ TB) (hinst : Cond.instantiable Cl N ∈ TB) (hini : Cond.initialized Cl ∈ TB) (hc : kc + 1 ≤ M.rm.cells) (hs : ns + N ≤ M.rm.slots)
    (k : ∀ q : Nat, gT h q = 0 → X w M Q QX (kc + 1) (ns + N) (pc + 3) L (.ref q :: st) (nO h q (ci + 1) 0)) : X w M Q QX kc ns pc L st h := by
  intro p e s m args below meth c H locs tys ws ls C hK hP hD hE hS hB hl
  have C0 := C
  obtain ⟨hx, hb, hml, hr, hlk, hown, hts, hin, htab⟩ := C
  obtain ⟨c1, c2, c3, c4, c5, c6, c7, c8⟩ := hci
  refine va_new (D := w.dg) (ci := ci) (fs := ks.map (fun b => if b then Value.null else .int 0)) hx hb hts c2 ty c3 hown (hts _ hcl) (hts _ hinst) (hts _ hini) hK hP hD hS (fun q hq => Nat.le_trans hB.2.1 hq) c1 (fun j hj => ?_) hc hs hd (fun q H1 hP1 hD1 hS1 => ?_)
  · rw [c8 j hj]
    have hl : j < ks.length := by rw [c6]; exact hj
    simp only [vp_V, List.getD_eq_getElem?_getD, List.getElem?_map, List.getElem?_eq_getElem hl, Option.map_some, Option.getD_some, Option.some.injEq]
  · obtain ⟨hq0, hE1⟩ := hE.push (t := ci + 1) (n := 0) hD1 (Nat.succ_ne_zero _) (Or.inl ⟨ci, ks, by rw [gT_nO, if_pos rfl], c7, c5, by rw [encF_new]⟩)
    exact k q hq0 p e s m args below meth c H1 locs tys _ ls C0 hK hP1 hD1 hE1 hS1 hB hl
theorem x_newI {n : Int32} {N' : Nat} (hd : decode M.cd pc = .ok (.newarray .int, 2)) (harr : Cond.arrayClass .int ∈ TB) (hn : ¬ n < 0) (hN : n.toNatClampNeg = N') (hb2 : N' * 8 ≤ 536870912) (hc : kc + 1 ≤ M.rm.cells) (hs : ns + N' ≤ M.rm.slots)
    (k : ∀ q : Nat, gT h q = 0 → X w M Q QX (kc + 1) (ns + N') (pc + 2) L (.ref q :: st) (nO h q 11 N')) : X w M Q QX kc ns pc L (.int n :: st) h := by
  intro p e s m args below meth c H locs tys ws ls C hK hP hD hE hS hB hl
  have C0 := C
  obtain ⟨hx, hb, hml, hr, hlk, hown, hts, hin, htab⟩ := C
  refine va_newa (D := w.dg) (atype := .int) hx hb (hts _ harr) rfl hK hP hD hS (fun q hq => Nat.le_trans hB.2.1 hq) (a0 := (N', .inl (fun _ => 0))) (fun cA => vp_cell_i cA N' _) hn hN (by simp only [newarray.typeOf, componentBytes]; omega) hc hs hd (fun q cA H1 hK1 hP1 hD1 hS1 => ?_)
  obtain ⟨hq0, hE1⟩ := (hE.more [(cA, .int)]).push (t := 11) (n := N') hD1 (by decide) (Or.inr ⟨cA, tys.length, by rw [gT_nO, if_pos rfl]; decide, by rw [gT_nO, if_pos rfl]; decide, by rw [gT_nO, if_pos rfl]; simp [ety], by
    rw [encA_I (by rw [gT_nO, if_pos rfl]), gN_nO, if_pos rfl]
    congr
    funext j
    simp [gI_nO, gL_nO]⟩)
  exact k q hq0 p e s m args below meth c H1 locs _ _ ls C0 hK1 hP1 hD1 hE1 hS1 hB hl
theorem x_newZ {n : Int32} {N' : Nat} (hd : decode M.cd pc = .ok (.newarray .boolean, 2)) (harr : Cond.arrayClass .boolean ∈ TB) (hn : ¬ n < 0) (hN : n.toNatClampNeg = N') (hb2 : N' * 8 ≤ 536870912) (hc : kc + 1 ≤ M.rm.cells) (hs : ns + N' ≤ M.rm.slots)
    (k : ∀ q : Nat, gT h q = 0 → X w M Q QX (kc + 1) (ns + N') (pc + 2) L (.ref q :: st) (nO h q 12 N')) : X w M Q QX kc ns pc L (.int n :: st) h := by
  intro p e s m args below meth c H locs tys ws ls C hK hP hD hE hS hB hl
  have C0 := C
  obtain ⟨hx, hb, hml, hr, hlk, hown, hts, hin, htab⟩ := C
  refine va_newa (D := w.dg) (atype := .boolean) hx hb (hts _ harr) rfl hK hP hD hS (fun q hq => Nat.le_trans hB.2.1 hq) (a0 := (N', .inl (fun _ => 0))) (fun cA => vp_cell_i cA N' _) hn hN (by simp only [newarray.typeOf, componentBytes]; omega) hc hs hd (fun q cA H1 hK1 hP1 hD1 hS1 => ?_)
  obtain ⟨hq0, hE1⟩ := (hE.more [(cA, .boolean)]).push (t := 12) (n := N') hD1 (by decide) (Or.inr ⟨cA, tys.length, by rw [gT_nO, if_pos rfl]; decide, by rw [gT_nO, if_pos rfl]; decide, by rw [gT_nO, if_pos rfl]; simp [ety], by
    rw [encA_Z (by rw [gT_nO, if_pos rfl]), gN_nO, if_pos rfl]
    congr
    funext j
    simp [gI_nO, gL_nO]⟩)
  exact k q hq0 p e s m args below meth c H1 locs _ _ ls C0 hK1 hP1 hD1 hE1 hS1 hB hl
theorem x_newL {n : Int32} {N' : Nat} (hd : decode M.cd pc = .ok (.newarray .long, 2)) (harr : Cond.arrayClass .long ∈ TB) (hn : ¬ n < 0) (hN : n.toNatClampNeg = N') (hb2 : N' * 8 ≤ 536870912) (hc : kc + 1 ≤ M.rm.cells) (hs : ns + N' ≤ M.rm.slots)
    (k : ∀ q : Nat, gT h q = 0 → X w M Q QX (kc + 1) (ns + N') (pc + 2) L (.ref q :: st) (nO h q 13 N')) : X w M Q QX kc ns pc L (.int n :: st) h := by
  intro p e s m args below meth c H locs tys ws ls C hK hP hD hE hS hB hl
  have C0 := C
  obtain ⟨hx, hb, hml, hr, hlk, hown, hts, hin, htab⟩ := C
  refine va_newa (D := w.dg) (atype := .long) hx hb (hts _ harr) rfl hK hP hD hS (fun q hq => Nat.le_trans hB.2.1 hq) (a0 := (N', .inr (.inl (fun _ => 0)))) (fun cA => vp_cell_l cA N' _) hn hN (by simp only [newarray.typeOf, componentBytes]; omega) hc hs hd (fun q cA H1 hK1 hP1 hD1 hS1 => ?_)
  obtain ⟨hq0, hE1⟩ := (hE.more [(cA, .long)]).push (t := 13) (n := N') hD1 (by decide) (Or.inr ⟨cA, tys.length, by rw [gT_nO, if_pos rfl]; decide, by rw [gT_nO, if_pos rfl]; decide, by rw [gT_nO, if_pos rfl]; simp [ety], by
    rw [encA_L (by rw [gT_nO, if_pos rfl]), gN_nO, if_pos rfl]
    congr
    funext j
    simp [gI_nO, gL_nO]⟩)
  exact k q hq0 p e s m args below meth c H1 locs _ _ ls C0 hK1 hP1 hD1 hE1 hS1 hB hl

theorem x_newq {n : Int32} {N' idx t : Nat} {Cl : String} (hd : decode M.cd pc = .ok (.anewarray idx, 3)) (hcl : Cond.classLink M.ow idx Cl ∈ TB) (hao : Cl ∈ AOl) (hty : ety t = .object Cl) (h14 : 14 ≤ t) (h17 : t ≤ 17) (hn : ¬ n < 0) (hN : n.toNatClampNeg = N') (hb2 : N' * 8 ≤ 536870912) (hc : kc + 1 ≤ M.rm.cells) (hs : ns + N' ≤ M.rm.slots)
    (k : ∀ q : Nat, gT h q = 0 → X w M Q QX (kc + 1) (ns + N') (pc + 3) L (.ref q :: st) (nO h q t N')) : X w M Q QX kc ns pc L (.int n :: st) h := by
  intro p e s m args below meth c H locs tys ws ls C hK hP hD hE hS hB hl
  have C0 := C
  obtain ⟨hx, hb, hml, hr, hlk, hown, hts, hin, htab⟩ := C
  refine va_newq (D := w.dg) (C := Cl) hx hb hown (hts _ hcl) (hB.2.2.2.2.2.2.2.2.2.2.2.2 Cl hao) hK hP hD hS (fun q hq => Nat.le_trans hB.2.1 hq) hn hN (by omega) hc hs hd (fun q cA H1 hK1 hP1 hD1 hS1 => ?_)
  have htq : gT (nO h q t N') q = t := by rw [gT_nO, if_pos rfl]
  obtain ⟨hq0, hE1⟩ := (hE.more [(cA, .object Cl)]).push (t := t) (n := N') hD1 (by omega) (Or.inr ⟨cA, tys.length, by rw [htq]; omega, by rw [htq]; exact h17, by rw [htq, hty]; simp, by
    rw [encA_R (by rw [htq]; exact h14), gN_nO, if_pos rfl]
    congr
    funext j
    simp [gR_nO]⟩)
  exact k q hq0 p e s m args below meth c H1 locs _ _ ls C0 hK1 hP1 hD1 hE1 hS1 hB hl
theorem x_iald {i : Int32} {a : Nat} (hd : decode M.cd pc = .ok (.iaload, 1)) (ht : gT h a = 11) (hi : vp_in i (gN h a)) (k : X w M Q QX kc ns (pc + 1) L (.int (gI h a i.toNatClampNeg) :: st) h) : X w M Q QX kc ns pc L (.int i :: .ref a :: st) h := by
  intro p e s m args below meth c H locs tys ws ls C hK hP hD hE hS hB hl
  have C0 := C
  obtain ⟨hx, hb, hml, hr, hlk, hown, hts, hin, htab⟩ := C
  obtain ⟨q0, cA, t0, -, g1, g2⟩ := hE.arr (a := a) (by rw [ht]; decide)
  rw [encA_I ht] at g1
  rw [ht] at g2
  exact va_iald (D := w.dg) hx hb hK hP q0 t0 g1 g2 hi hd (k p e s m args below meth c H locs tys ws ls C0 hK hP hD hE hS hB hl)
theorem x_zald {i : Int32} {a : Nat} (hd : decode M.cd pc = .ok (.baload, 1)) (ht : gT h a = 12) (hi : vp_in i (gN h a)) (k : X w M Q QX kc ns (pc + 1) L (.int (gI h a i.toNatClampNeg) :: st) h) : X w M Q QX kc ns pc L (.int i :: .ref a :: st) h := by
  intro p e s m args below meth c H locs tys ws ls C hK hP hD hE hS hB hl
  have C0 := C
  obtain ⟨hx, hb, hml, hr, hlk, hown, hts, hin, htab⟩ := C
  obtain ⟨q0, cA, t0, -, g1, g2⟩ := hE.arr (a := a) (by rw [ht]; decide)
  rw [encA_Z ht] at g1
  rw [ht] at g2
  exact va_zald (D := w.dg) hx hb hK hP q0 t0 g1 g2 hi hd (k p e s m args below meth c H locs tys ws ls C0 hK hP hD hE hS hB hl)
theorem x_lald {i : Int32} {a : Nat} (hd : decode M.cd pc = .ok (.laload, 1)) (ht : gT h a = 13) (hi : vp_in i (gN h a)) (k : X w M Q QX kc ns (pc + 1) L (.long (gL h a i.toNatClampNeg) :: st) h) : X w M Q QX kc ns pc L (.int i :: .ref a :: st) h := by
  intro p e s m args below meth c H locs tys ws ls C hK hP hD hE hS hB hl
  have C0 := C
  obtain ⟨hx, hb, hml, hr, hlk, hown, hts, hin, htab⟩ := C
  obtain ⟨q0, cA, t0, -, g1, g2⟩ := hE.arr (a := a) (by rw [ht]; decide)
  rw [encA_L ht] at g1
  rw [ht] at g2
  exact va_lald (D := w.dg) hx hb hK hP q0 t0 g1 g2 hi hd (k p e s m args below meth c H locs tys ws ls C0 hK hP hD hE hS hB hl)
theorem x_iast {i : Int32} {a : Nat} {x : Int32} (hd : decode M.cd pc = .ok (.iastore, 1)) (ht : gT h a = 11) (hi : vp_in i (gN h a)) (k : X w M Q QX kc ns (pc + 1) L st (sI h a i.toNatClampNeg x)) : X w M Q QX kc ns pc L (.int x :: .int i :: .ref a :: st) h := by
  intro p e s m args below meth c H locs tys ws ls C hK hP hD hE hS hB hl
  have C0 := C
  obtain ⟨hx, hb, hml, hr, hlk, hown, hts, hin, htab⟩ := C
  obtain ⟨q0, cA, t0, -, g1, g2⟩ := hE.arr (a := a) (by rw [ht]; decide)
  rw [encA_I ht] at g1
  rw [ht] at g2
  refine va_iast (D := w.dg) hx hb hK hP hD hS q0 t0 g1 g2 hi hd (fun H1 locs1 hP1 hD1 hS1 => ?_)
  refine k p e s m args below meth c H1 locs1 tys _ ls C0 hK hP1 hD1 (hE.upd g1 (fun _ => rfl) (fun b hb e he => he.cong (h := h) (h' := sI h a i.toNatClampNeg x) rfl rfl (fun j => by rw [gI_sI, if_neg (fun z => hb z.1)]) (fun _ => rfl) (fun _ => rfl)) (Or.inr ⟨cA, t0, by show 11 ≤ gT h a; rw [ht]; decide, by show gT h a ≤ 17; rw [ht]; decide, by show tys[t0]? = some (cA, ety (gT h a)); rw [ht]; exact g2, ?_⟩)) hS1 hB hl
  rw [encA_I (h := sI h a i.toNatClampNeg x) ht]
  have e1 : gI (sI h a i.toNatClampNeg x) a = upd (gI h a) i.toNatClampNeg x := by funext j; simp [gI_sI, upd]
  rw [e1]
  rfl
theorem x_zast {i : Int32} {a : Nat} {x : Int32} (hd : decode M.cd pc = .ok (.bastore, 1)) (ht : gT h a = 12) (hi : vp_in i (gN h a)) (hv : x = 0 ∨ x = 1) (k : X w M Q QX kc ns (pc + 1) L st (sI h a i.toNatClampNeg x)) : X w M Q QX kc ns pc L (.int x :: .int i :: .ref a :: st) h := by
  intro p e s m args below meth c H locs tys ws ls C hK hP hD hE hS hB hl
  have C0 := C
  obtain ⟨hx, hb, hml, hr, hlk, hown, hts, hin, htab⟩ := C
  obtain ⟨q0, cA, t0, -, g1, g2⟩ := hE.arr (a := a) (by rw [ht]; decide)
  rw [encA_Z ht] at g1
  rw [ht] at g2
  refine va_zast (D := w.dg) hx hb hK hP hD hS q0 t0 g1 g2 hi hd (fun H1 locs1 hP1 hD1 hS1 => ?_)
  refine k p e s m args below meth c H1 locs1 tys _ ls C0 hK hP1 hD1 (hE.upd g1 (fun _ => rfl) (fun b hb e he => he.cong (h := h) (h' := sI h a i.toNatClampNeg x) rfl rfl (fun j => by rw [gI_sI, if_neg (fun z => hb z.1)]) (fun _ => rfl) (fun _ => rfl)) (Or.inr ⟨cA, t0, by show 11 ≤ gT h a; rw [ht]; decide, by show gT h a ≤ 17; rw [ht]; decide, by show tys[t0]? = some (cA, ety (gT h a)); rw [ht]; exact g2, ?_⟩)) hS1 hB hl
  rw [encA_Z (h := sI h a i.toNatClampNeg x) ht]
  have hnar : vp_nar .boolean x = x := by rcases hv with rfl | rfl <;> decide
  have e1 : gI (sI h a i.toNatClampNeg x) a = upd (gI h a) i.toNatClampNeg x := by funext j; simp [gI_sI, upd]
  rw [hnar, e1]
  rfl
theorem x_last {i : Int32} {a : Nat} {x : Int64} (hd : decode M.cd pc = .ok (.lastore, 1)) (ht : gT h a = 13) (hi : vp_in i (gN h a)) (k : X w M Q QX kc ns (pc + 1) L st (sL h a i.toNatClampNeg x)) : X w M Q QX kc ns pc L (.long x :: .int i :: .ref a :: st) h := by
  intro p e s m args below meth c H locs tys ws ls C hK hP hD hE hS hB hl
  have C0 := C
  obtain ⟨hx, hb, hml, hr, hlk, hown, hts, hin, htab⟩ := C
  obtain ⟨q0, cA, t0, -, g1, g2⟩ := hE.arr (a := a) (by rw [ht]; decide)
  rw [encA_L ht] at g1
  rw [ht] at g2
  refine va_last (D := w.dg) hx hb hK hP hD hS q0 t0 g1 g2 hi hd (fun H1 locs1 hP1 hD1 hS1 => ?_)
  refine k p e s m args below meth c H1 locs1 tys _ ls C0 hK hP1 hD1 (hE.upd g1 (fun _ => rfl) (fun b hb e he => he.cong (h := h) (h' := sL h a i.toNatClampNeg x) rfl rfl (fun _ => rfl) (fun _ => rfl) (fun j => by rw [gL_sL, if_neg (fun z => hb z.1)])) (Or.inr ⟨cA, t0, by show 11 ≤ gT h a; rw [ht]; decide, by show gT h a ≤ 17; rw [ht]; decide, by show tys[t0]? = some (cA, ety (gT h a)); rw [ht]; exact g2, ?_⟩)) hS1 hB hl
  rw [encA_L (h := sL h a i.toNatClampNeg x) ht]
  have e1 : gL (sL h a i.toNatClampNeg x) a = vp_updL (gL h a) i.toNatClampNeg x := by funext j; simp [gL_sL, vp_updL]
  rw [e1]
  rfl

theorem x_aald {i : Int32} {a : Nat} (hd : decode M.cd pc = .ok (.aaload, 1)) (ht : 14 ≤ gT h a) (hi : vp_in i (gN h a)) (k : X w M Q QX kc ns (pc + 1) L (va_rf (gR h a i.toNatClampNeg) :: st) h) : X w M Q QX kc ns pc L (.int i :: .ref a :: st) h := by
  intro p e s m args below meth c H locs tys ws ls C hK hP hD hE hS hB hl
  have C0 := C
  obtain ⟨hx, hb, hml, hr, hlk, hown, hts, hin, htab⟩ := C
  obtain ⟨q0, cA, t0, g3, g1, g2⟩ := hE.arr (a := a) (by omega)
  rw [encA_R ht] at g1
  obtain ⟨Cl, hC⟩ : ∃ Cl, ety (gT h a) = .object Cl := by
    generalize gT h a = t at ht g3
    rcases (show t = 14 ∨ t = 15 ∨ t = 16 ∨ t = 17 by omega) with rfl | rfl | rfl | rfl <;> exact ⟨_, rfl⟩
  rw [hC] at g2
  exact va_aldq (D := w.dg) hx hb hK hP q0 t0 g1 g2 hi hd (k p e s m args below meth c H locs tys ws ls C0 hK hP hD hE hS hB hl)
theorem x_aast {i : Int32} {a v ci N : Nat} {Cl : String} {T : u_T} {ty : Nat → FieldType} {ks : List Bool} (hd : decode M.cd pc = .ok (.aastore, 1)) (ht : 14 ≤ gT h a) (hci : CI ci Cl T N ty ks) (hv : gT h v = ci + 1) (hC : ety (gT h a) = .object Cl) (hi : vp_in i (gN h a)) (k : X w M Q QX kc ns (pc + 1) L st (sR h a i.toNatClampNeg (some v))) : X w M Q QX kc ns pc L (.ref v :: .int i :: .ref a :: st) h := by
  intro p e s m args below meth c H locs tys ws ls C hK hP hD hE hS hB hl
  have C0 := C
  obtain ⟨hx, hb, hml, hr, hlk, hown, hts, hin, htab⟩ := C
  obtain ⟨c1, c2, c3, c4, c5, c6, c7, c8⟩ := hci
  obtain ⟨q0, cA, t0, g3, g1, g2⟩ := hE.arr (a := a) (by omega)
  obtain ⟨qk, hqk⟩ := hE.obj hv c5 c7
  rw [encA_R ht] at g1
  have g2' := g2
  rw [hC] at g2
  refine va_astq (D := w.dg) (r := (Cl, T, N)) hx hb hK hP hD hS q0 t0 qk ci g1 g2 hqk c1 hi hd (fun H1 locs1 hP1 hD1 hS1 => ?_)
  refine k p e s m args below meth c H1 locs1 tys _ ls C0 hK hP1 hD1 (hE.upd g1 (fun _ => rfl) (fun b hb e he => he.cong (h := h) (h' := sR h a i.toNatClampNeg (some v)) rfl rfl (fun _ => rfl) (fun j => by rw [gR_sR, if_neg (fun z => hb z.1)]) (fun _ => rfl)) (Or.inr ⟨cA, t0, by show 11 ≤ gT h a; omega, g3, g2', ?_⟩)) hS1 hB hl
  rw [encA_R (h := sR h a i.toNatClampNeg (some v)) ht]
  have e1 : gR (sR h a i.toNatClampNeg (some v)) a = va_up (gR h a) i.toNatClampNeg (some v) := by funext j; simp [gR_sR, va_up]
  rw [e1]
  rfl
theorem x_alen {a : Nat} (hd : decode M.cd pc = .ok (.arraylength, 1)) (ht : 11 ≤ gT h a) (k : X w M Q QX kc ns (pc + 1) L (.int (Int32.ofNat (gN h a)) :: st) h) : X w M Q QX kc ns pc L (.ref a :: st) h := by
  intro p e s m args below meth c H locs tys ws ls C hK hP hD hE hS hB hl
  have C0 := C
  obtain ⟨hx, hb, hml, hr, hlk, hown, hts, hin, htab⟩ := C
  obtain ⟨q0, cA, t0, g3, g1, g2⟩ := hE.arr (a := a) ht
  have he : (encA h a).1 = gN h a := by unfold encA; split <;> rfl
  exact va_alen (D := w.dg) hx hb hK hP q0 t0 g1 g2 (by rw [he]) hd (k p e s m args below meth c H locs tys ws ls C0 hK hP hD hE hS hB hl)
/-- the static rows and the script: read, never written -/
theorem x_getsS {idx : Nat} (hd : decode M.cd pc = .ok (.getstatic idx, 3)) (hn : Cond.fieldLinkNest M.ow idx "Stowfinish" "SIDE_STEPS" "[I" "Stowfinish" ∈ NWl) (k : X w M Q QX kc ns (pc + 3) L (.ref w.aS :: st) h) : X w M Q QX kc ns pc L st h := by
  intro p e s m args below meth c H locs tys ws ls C hK hP hD hE hS hB hl
  have C0 := C
  obtain ⟨hx, hb, hml, hr, hlk, hown, hts, hin, htab⟩ := C
  exact va_getsN hx hb hB.2.2.2.2.1 hS hown (va_Nw.use rfl (hB.2.2.2.2.2.2.2.2.2.1 _ hn)) (fun _ z => z) hd (k p e s m args below meth c H locs tys ws ls C0 hK hP hD hE hS hB hl)
theorem x_getsH {idx : Nat} (hd : decode M.cd pc = .ok (.getstatic idx, 3)) (hn : Cond.fieldLinkNest M.ow idx "Stowfinish" "SIDE_HOLES" "[I" "Stowfinish" ∈ NWl) (k : X w M Q QX kc ns (pc + 3) L (.ref w.aH :: st) h) : X w M Q QX kc ns pc L st h := by
  intro p e s m args below meth c H locs tys ws ls C hK hP hD hE hS hB hl
  have C0 := C
  obtain ⟨hx, hb, hml, hr, hlk, hown, hts, hin, htab⟩ := C
  exact va_getsN hx hb hB.2.2.2.2.2.1 hS hown (va_Nw.use rfl (hB.2.2.2.2.2.2.2.2.2.1 _ hn)) (fun _ z => z) hd (k p e s m args below meth c H locs tys ws ls C0 hK hP hD hE hS hB hl)
theorem x_roS {i : Int32} (hd : decode M.cd pc = .ok (.iaload, 1)) (hi : vp_in i 4) (k : X w M Q QX kc ns (pc + 1) L (.int (sideS i.toNatClampNeg) :: st) h) : X w M Q QX kc ns pc L (.int i :: .ref w.aS :: st) h := by
  intro p e s m args below meth c H locs tys ws ls C hK hP hD hE hS hB hl
  have C0 := C
  obtain ⟨hx, hb, hml, hr, hlk, hown, hts, hin, htab⟩ := C
  exact va_sld hx hb hB.2.2.2.2.2.2.1.1 (Nat.lt_of_lt_of_le hB.2.2.2.2.2.2.1.2 hB.2.1) (Nat.not_le.mpr hB.2.2.2.2.2.2.1.2) hS hi hd (k p e s m args below meth c H locs tys ws ls C0 hK hP hD hE hS hB hl)
theorem x_roSlen (hd : decode M.cd pc = .ok (.arraylength, 1)) (k : X w M Q QX kc ns (pc + 1) L (.int (Int32.ofNat 4) :: st) h) : X w M Q QX kc ns pc L (.ref w.aS :: st) h := by
  intro p e s m args below meth c H locs tys ws ls C hK hP hD hE hS hB hl
  have C0 := C
  obtain ⟨hx, hb, hml, hr, hlk, hown, hts, hin, htab⟩ := C
  exact va_slen hx hb hB.2.2.2.2.2.2.1.1 (Nat.lt_of_lt_of_le hB.2.2.2.2.2.2.1.2 hB.2.1) (Nat.not_le.mpr hB.2.2.2.2.2.2.1.2) hS hd (k p e s m args below meth c H locs tys ws ls C0 hK hP hD hE hS hB hl)
theorem x_roH {i : Int32} (hd : decode M.cd pc = .ok (.iaload, 1)) (hi : vp_in i 4) (k : X w M Q QX kc ns (pc + 1) L (.int (sideH i.toNatClampNeg) :: st) h) : X w M Q QX kc ns pc L (.int i :: .ref w.aH :: st) h := by
  intro p e s m args below meth c H locs tys ws ls C hK hP hD hE hS hB hl
  have C0 := C
  obtain ⟨hx, hb, hml, hr, hlk, hown, hts, hin, htab⟩ := C
  exact va_sld hx hb hB.2.2.2.2.2.2.2.1.1 (Nat.lt_of_lt_of_le hB.2.2.2.2.2.2.2.1.2 hB.2.1) (Nat.not_le.mpr hB.2.2.2.2.2.2.2.1.2) hS hi hd (k p e s m args below meth c H locs tys ws ls C0 hK hP hD hE hS hB hl)
theorem x_roHlen (hd : decode M.cd pc = .ok (.arraylength, 1)) (k : X w M Q QX kc ns (pc + 1) L (.int (Int32.ofNat 4) :: st) h) : X w M Q QX kc ns pc L (.ref w.aH :: st) h := by
  intro p e s m args below meth c H locs tys ws ls C hK hP hD hE hS hB hl
  have C0 := C
  obtain ⟨hx, hb, hml, hr, hlk, hown, hts, hin, htab⟩ := C
  exact va_slen hx hb hB.2.2.2.2.2.2.2.1.1 (Nat.lt_of_lt_of_le hB.2.2.2.2.2.2.2.1.2 hB.2.1) (Nat.not_le.mpr hB.2.2.2.2.2.2.2.1.2) hS hd (k p e s m args below meth c H locs tys ws ls C0 hK hP hD hE hS hB hl)
theorem x_roX {i : Int32} (hd : decode M.cd pc = .ok (.iaload, 1)) (hi : vp_in i w.lX) (k : X w M Q QX kc ns (pc + 1) L (.int (w.xs i.toNatClampNeg) :: st) h) : X w M Q QX kc ns pc L (.int i :: .ref w.aX :: st) h := by
  intro p e s m args below meth c H locs tys ws ls C hK hP hD hE hS hB hl
  have C0 := C
  obtain ⟨hx, hb, hml, hr, hlk, hown, hts, hin, htab⟩ := C
  exact va_sld hx hb hB.2.2.2.2.2.2.2.2.1.1 (Nat.lt_of_lt_of_le hB.2.2.2.2.2.2.2.2.1.2 hB.2.1) (Nat.not_le.mpr hB.2.2.2.2.2.2.2.2.1.2) hS hi hd (k p e s m args below meth c H locs tys ws ls C0 hK hP hD hE hS hB hl)
theorem x_roXlen (hd : decode M.cd pc = .ok (.arraylength, 1)) (k : X w M Q QX kc ns (pc + 1) L (.int (Int32.ofNat w.lX) :: st) h) : X w M Q QX kc ns pc L (.ref w.aX :: st) h := by
  intro p e s m args below meth c H locs tys ws ls C hK hP hD hE hS hB hl
  have C0 := C
  obtain ⟨hx, hb, hml, hr, hlk, hown, hts, hin, htab⟩ := C
  exact va_slen hx hb hB.2.2.2.2.2.2.2.2.1.1 (Nat.lt_of_lt_of_le hB.2.2.2.2.2.2.2.2.1.2 hB.2.1) (Nat.not_le.mpr hB.2.2.2.2.2.2.2.2.1.2) hS hd (k p e s m args below meth c H locs tys ws ls C0 hK hP hD hE hS hB hl)

theorem x_mmax {idx : Nat} {x y : Int32} (hd : decode M.cd pc = .ok (.invokestatic idx, 3)) (hlink : Cond.methodLink M.ow idx Lib.Math.max.name ∈ TB) (hstat : Cond.static Lib.Math.max.name ∈ TB) (hini : Cond.initialized "java/lang/Math" ∈ TB) (hcode : Cond.code Lib.Math.max.name Lib.Math.max.code 2 (some .int) ∈ TB) (hf : 1 ≤ M.rm.frames) (hlo : (st.map fun v => v.category).sum + 13 ≤ M.rm.locals) (hc : kc ≤ M.rm.cells) (hs : ns ≤ M.rm.slots)
    (k : X w M Q QX kc ns (pc + 3) L (.int (if x < y then y else x) :: st) h) : X w M Q QX kc ns pc L (.int y :: .int x :: st) h := by
  intro p e s m args below meth c H locs tys ws ls C hK hP hD hE hS hB hl
  have C0 := C
  obtain ⟨hx, hb, hml, hr, hlk, hown, hts, hin, htab⟩ := C
  exact va_mmax hx hb (by rw [hml, hl.1]) hown (hts _ hlink) (hts _ hstat) (hts _ hini) (hts _ hcode) hf hlo hc hs hd (k p e s m args below meth c H locs tys ws ls C0 hK hP hD hE hS hB hl)
theorem x_mabs {idx : Nat} {x : Int32} (hd : decode M.cd pc = .ok (.invokestatic idx, 3)) (hlink : Cond.methodLink M.ow idx Lib.Math.abs.name ∈ TB) (hstat : Cond.static Lib.Math.abs.name ∈ TB) (hini : Cond.initialized "java/lang/Math" ∈ TB) (hcode : Cond.code Lib.Math.abs.name Lib.Math.abs.code 1 (some .int) ∈ TB) (hf : 1 ≤ M.rm.frames) (hlo : (st.map fun v => v.category).sum + 13 ≤ M.rm.locals) (hc : kc ≤ M.rm.cells) (hs : ns ≤ M.rm.slots)
    (k : X w M Q QX kc ns (pc + 3) L (.int (if 0 ≤ x then x else 0 - x) :: st) h) : X w M Q QX kc ns pc L (.int x :: st) h := by
  intro p e s m args below meth c H locs tys ws ls C hK hP hD hE hS hB hl
  have C0 := C
  obtain ⟨hx, hb, hml, hr, hlk, hown, hts, hin, htab⟩ := C
  exact va_mabs hx hb (by rw [hml, hl.1]) hown (hts _ hlink) (hts _ hstat) (hts _ hini) (hts _ hcode) hf hlo hc hs hd (k p e s m args below meth c H locs tys ws ls C0 hK hP hD hE hS hB hl)
theorem x_objInit {idx a : Nat} (hd : decode M.cd pc = .ok (.invokespecial idx, 3)) (hlink : Cond.methodLink M.ow idx Lib.objectInit ∈ TB) (hinst : Cond.instanceMethod Lib.objectInit ∈ TB) (hcode : Cond.code Lib.objectInit ⟨#[0xb1]⟩ 1 none ∈ TB) (hf : 1 ≤ M.rm.frames) (hlo : (st.map fun v => v.category).sum + 12 ≤ M.rm.locals)
    (k : X w M Q QX kc ns (pc + 3) L st h) : X w M Q QX kc ns pc L (.ref a :: st) h := by
  intro p e s m args below meth c H locs tys ws ls C hK hP hD hE hS hB hl
  have C0 := C
  obtain ⟨hx, hb, hml, hr, hlk, hown, hts, hin, htab⟩ := C
  refine W.objInit (g := F0 m pc ls (.ref a :: st)) hx hb hown (hts _ hlink) (hts _ hinst) (hts _ hcode) rfl (by show ls.size = _; rw [hml, hl.1]) rfl hd hf ?_ (k p e s m args below meth c H locs tys ws ls C0 hK hP hD hE hS hB hl)
  have : (F0 m pc ls (.ref a :: st)).monitorRoom = 0 := rfl
  omega
/-! ends -/
theorem x_iret {v : Int32} (hd : decode M.cd pc = .ok (.ireturn, 1)) (hrt : M.rt = some .int) (hc : kc ≤ M.rm.cells) (hs : ns ≤ M.rm.slots) (hq : Q (some (.int v)) h) : X w M Q QX kc ns pc L [.int v] h := by
  intro p e s m args below meth c H locs tys ws ls C hK hP hD hE hS hB hl
  have C0 := C
  obtain ⟨hx, hb, hml, hr, hlk, hown, hts, hin, htab⟩ := C
  refine W.widen hc hs (vx_ret ?_)
  exact W.iret hx hb (hr.trans hrt) (fun t ht hW => ⟨_, h, rfl, hq, ⟨tys, ws, va_K.moved hW.alike hK, by rw [ht]; exact hP, hD, hE⟩, hS.F ht⟩) hS.2.2 hd hlk
theorem x_zret {v : Int32} (hd : decode M.cd pc = .ok (.ireturn, 1)) (hrt : M.rt = some .boolean) (hv : v = 0 ∨ v = 1) (hc : kc ≤ M.rm.cells) (hs : ns ≤ M.rm.slots) (hq : Q (some (.int v)) h) : X w M Q QX kc ns pc L [.int v] h := by
  intro p e s m args below meth c H locs tys ws ls C hK hP hD hE hS hB hl
  have C0 := C
  obtain ⟨hx, hb, hml, hr, hlk, hown, hts, hin, htab⟩ := C
  refine W.widen hc hs (vx_ret ?_)
  exact W.zret hx hb (hr.trans hrt) (by rcases hv with rfl | rfl <;> decide) (fun t ht hW => ⟨_, h, rfl, hq, ⟨tys, ws, va_K.moved hW.alike hK, by rw [ht]; exact hP, hD, hE⟩, hS.F ht⟩) hS.2.2 hd hlk
theorem x_aret {v : Option Nat} {rt : FieldType} (hd : decode M.cd pc = .ok (.areturn, 1)) (hrt : M.rt = some rt) (hrt2 : (∃ n, rt = .object n) ∨ ∃ t, rt = .array t) (hc : kc ≤ M.rm.cells) (hs : ns ≤ M.rm.slots) (hq : Q (some (va_rf v)) h) : X w M Q QX kc ns pc L [va_rf v] h := by
  intro p e s m args below meth c H locs tys ws ls C hK hP hD hE hS hB hl
  have C0 := C
  obtain ⟨hx, hb, hml, hr, hlk, hown, hts, hin, htab⟩ := C
  refine W.widen hc hs (vx_ret ?_)
  exact W.aret hx hb (hr.trans hrt) hrt2 (by cases v with | none => exact Or.inl rfl | some a => exact Or.inr ⟨a, rfl⟩) (fun t ht hW => ⟨_, h, rfl, hq, ⟨tys, ws, va_K.moved hW.alike hK, by rw [ht]; exact hP, hD, hE⟩, hS.F ht⟩) hS.2.2 hd hlk
theorem x_vret (hd : decode M.cd pc = .ok (.return_, 1)) (hrt : M.rt = none) (hc : kc ≤ M.rm.cells) (hs : ns ≤ M.rm.slots) (hq : Q none h) : X w M Q QX kc ns pc L [] h := by
  intro p e s m args below meth c H locs tys ws ls C hK hP hD hE hS hB hl
  have C0 := C
  obtain ⟨hx, hb, hml, hr, hlk, hown, hts, hin, htab⟩ := C
  refine W.widen hc hs (vx_ret ?_)
  exact W.vret hx hb (hr.trans hrt) (fun t ht hW => ⟨_, h, rfl, hq, ⟨tys, ws, va_K.moved hW.alike hK, by rw [ht]; exact hP, hD, hE⟩, hS.F ht⟩) hS.2.2 hd hlk
end XH
end
section

/-! CONTRACTS: for these arguments, in this abstract heap, the method returns so that Q (or throws so that QX) -/
def Cn (w : W0) (y : MethodName) (M : MI) (as : List Value) (h : AH) (Q : Option Value → AH → Prop) : Prop :=
  Met w.la y (Cond.code y M.cd M.ml M.rt :: TB) M.rm (PcX w as h) (QcX w Q) M.rm.cells M.rm.slots (wA w)
def Cv (w : W0) (y : MethodName) (M : MI) (as : List Value) (h : AH) (Q : Option Value → AH → Prop) (QX : String → AH → Prop) : Prop :=
  vx_Met w.la y (Cond.code y M.cd M.ml M.rt :: TB) M.rm (PcX w as h) (QcX w Q) (XcX w QX) M.rm.cells M.rm.slots (wA w)
def Ch (w : W0) (y : MethodName) (M : MI) (as : List Value) (h : AH) (Q : Option Value → AH → Prop) : Prop :=
  Met w.la y (Cond.codeWith y M.cd M.ml M.rt M.hh :: TB) M.rm (PcX w as h) (QcX w Q) M.rm.cells M.rm.slots (wA w)
/-- a method's own facts: its code, its class, how many parameters -/
def MC (y : MethodName) (M : MI) (n : Nat) : Prop :=
  Cond.code y M.cd M.ml M.rt ∈ TB ∧ Cond.initialized y.cls ∈ TB ∧ (y.cls ≠ "java/lang/invoke/MethodHandle" ∧ y.cls ≠ "java/lang/invoke/VarHandle") ∧ (parseMethodDescriptor y.desc).map (fun d => d.parameters.length) = some n ∧ plainName y.cls = true ∧ y.cls = M.ow ∧ M.hh = [] ∧ (M.ii = true → y.name = "<init>")
def MCh (y : MethodName) (M : MI) (n : Nat) : Prop :=
  Cond.codeWith y M.cd M.ml M.rt M.hh ∈ TB ∧ Cond.initialized y.cls ∈ TB ∧ (y.cls ≠ "java/lang/invoke/MethodHandle" ∧ y.cls ≠ "java/lang/invoke/VarHandle") ∧ (parseMethodDescriptor y.desc).map (fun d => d.parameters.length) = some n ∧ plainName y.cls = true ∧ y.cls = M.ow ∧ (M.ii = true → y.name = "<init>")
/-- a callee's room within the caller's -/
def Fit (M' M : MI) : Prop := M'.rm.frames + 1 ≤ M.rm.frames ∧ 8 + (M'.ml + 11) + M'.rm.locals ≤ M.rm.locals
def LkV (own : String) (idx : Nat) (y : MethodName) : Prop := Cond.methodLink own idx y ∈ TB ∧ Cond.instanceMethod y ∈ TB ∧ Cond.selects y.cls y y ∈ TB
def LkS (own : String) (idx : Nat) (y : MethodName) : Prop := Cond.methodLink own idx y ∈ TB ∧ Cond.static y ∈ TB
def LkI (own : String) (idx : Nat) (y : MethodName) : Prop := Cond.methodLink own idx y ∈ TB ∧ Cond.instanceMethod y ∈ TB ∧ y.name = "<init>"
def LkN (own : String) (idx : Nat) (y : MethodName) : Prop := Cond.methodLinkNest own idx y y.cls ∈ NWl ∧ Cond.static y ∈ TB
theorem Met_of_vx {l : Launch} {y : MethodName} {ws : List Cond} {rm : Room} {Pc : Array Value → State → Prop} {Qc : Array Value → State → Outcome → State → Prop} {XC : String → State → State → Prop} {mc ms : Nat} {free : Addr → Prop} (H : vx_Met l y ws rm Pc Qc XC mc ms free) (hX : ∀ E st t, ¬ XC E st t) : Met l y ws rm Pc Qc mc ms free := by
  intro p e ha hc hk s m args below hf happ hP hK
  obtain ⟨n, o, h1, h2, h3, hq⟩ := H p e ha hc hk s m args below hf happ hP hK
  refine ⟨n, o, h1, h2, h3, ?_⟩
  rcases hq with hq | ⟨q, -, E, ce, L, hx, -⟩
  · exact hq
  · exact absurd hx (hX _ _ _)
theorem lg_sl_1 : ∀ (as : List Value), (∀ v ∈ as, v.category = 1) → lg_sl as = as.map Slot.val
  | [], _ => rfl
  | v :: r, h => by
    have h1 := h v List.mem_cons_self
    have ih := lg_sl_1 r (fun x hx => h x (List.mem_cons_of_mem _ hx))
    simp only [lg_sl, List.flatMap_cons, h1] at ih ⊢
    simp [ih]
theorem lv_args_1 : ∀ (as : List Value) (k i : Nat) (v : Value), (∀ v ∈ as, v.category = 1) → as[i]? = some v → (k + i, v) ∈ lv_args k as
  | [], _, _, _, _, hi => by simp at hi
  | u :: r, k, 0, v, h, hi => by
    simp at hi
    subst hi
    exact List.mem_cons_self
  | u :: r, k, i + 1, v, h, hi => by
    have h1 := h u List.mem_cons_self
    have ih := lv_args_1 r (k + 1) i v (fun x hx => h x (List.mem_cons_of_mem _ hx)) (by simpa using hi)
    simp only [lv_args, h1]
    rw [show k + (i + 1) = k + 1 + i by omega]
    exact List.mem_cons_of_mem _ ih
theorem LH_entry {as : List Value} {n : Nat} (hl : as.length ≤ n) (hcat : ∀ v ∈ as, v.category = 1) : LH ((lg_sl as ++ List.replicate (n - (lg_sl as).length) Slot.unset).toArray) n (as.map some ++ List.replicate (n - as.length) none) := by
  have e := lg_sl_1 as hcat
  have hlen : (lg_sl as).length = as.length := by rw [e, List.length_map]
  have h := lv_entry as (n := n) (by rw [hlen]; exact hl)
  refine ⟨h.1, h.2.1, by simp; omega, fun i v hi => ?_⟩
  have hiv : as[i]? = some v := by
    by_cases hil : i < as.length
    · rw [List.getElem?_append_left (by simpa using hil)] at hi
      simpa using hi
    · rw [List.getElem?_append_right (by simpa using hil)] at hi
      have := List.mem_of_getElem? hi
      simp at this
  refine ⟨hcat v (List.mem_of_getElem? hiv), ?_⟩
  have h3 := h.2.2 (0 + i, v) (lv_args_1 as 0 i v hcat hiv)
  simpa using h3
section XC
variable {w : W0} {M : MI} {Q : Option Value → AH → Prop} {QX : String → AH → Prop} {kc ns pc : Nat} {L : List (Option Value)} {st : List Value} {h : AH}
theorem Cv_of {y : MethodName} {n : Nat} {as : List Value} (hc : MC y M n) (hl : as.length ≤ M.ml) (hcat : ∀ v ∈ as, v.category = 1) (hX : X w M Q QX 0 0 0 (as.map some ++ List.replicate (M.ml - as.length) none) [] h) : Cv w y M as h Q QX := by
  obtain ⟨h1, h2, h3, h4, h5, h6, h7, h8⟩ := hc
  refine vx_ofW h5 rfl (fun p e s m args below meth c s₁ B hml htab hv => ?_)
  obtain ⟨rfl, ⟨tys, ws, hK, hP, hD, hE⟩, hB⟩ := hv
  rw [lg_entry_eq]
  have hts := atoms_spec (ws := Cond.code y M.cd M.ml M.rt :: TB) B.pre
  exact hX p e s m _ below meth c s.heap [] tys ws _ ⟨B.exec, B.bytes, hml, B.returns, B.notSynchronized, by rw [← h6]; exact findClass_of_methodNamed B.named, fun t ht => hts t (List.mem_cons_of_mem _ ht), fun hi => by rw [(name_of_methodNamed B.named B.method).1, h8 hi], by
    rw [h7]
    cases hq : c.exceptionTable.toList with
    | nil => rfl
    | cons a r => exact absurd (by rw [hq]; exact List.mem_cons_self) (htab a)⟩ hK hP hD hE va_S.rf hB (LH_entry hl hcat)
theorem Cn_of {y : MethodName} {n : Nat} {as : List Value} (hc : MC y M n) (hl : as.length ≤ M.ml) (hcat : ∀ v ∈ as, v.category = 1) (hX : X w M Q (fun _ _ => False) 0 0 0 (as.map some ++ List.replicate (M.ml - as.length) none) [] h) : Cn w y M as h Q :=
  Met_of_vx (Cv_of hc hl hcat hX) (fun E st t z => by obtain ⟨h', z, -⟩ := z; exact z)
theorem Ch_of {y : MethodName} {n : Nat} {as : List Value} (hc : MCh y M n) (hl : as.length ≤ M.ml) (hcat : ∀ v ∈ as, v.category = 1) (hX : X w M Q (fun _ _ => False) 0 0 0 (as.map some ++ List.replicate (M.ml - as.length) none) [] h) : Ch w y M as h Q := by
  obtain ⟨h1, h2, h3, h4, h5, h6, h8⟩ := hc
  refine Met_of_vx (XC := XcX w (fun _ _ => False)) (vx_ofWH h5 rfl (fun p e s m args below meth c s₁ B hml hv => ?_)) (fun E st t z => by obtain ⟨h', z, -⟩ := z; exact z)
  obtain ⟨rfl, ⟨tys, ws, hK, hP, hD, hE⟩, hB⟩ := hv
  rw [lg_entry_eq]
  have hts := atoms_spec (ws := Cond.codeWith y M.cd M.ml M.rt M.hh :: TB) B.pre
  exact hX p e s m _ below meth c s.heap [] tys ws _ ⟨B.exec, B.bytes, hml, B.returns, B.notSynchronized, by rw [← h6]; exact findClass_of_methodNamed B.named, fun t ht => hts t (List.mem_cons_of_mem _ ht), fun hi => by rw [(name_of_methodNamed B.named B.method).1, h8 hi], vx_table (x := y) B (hts _ List.mem_cons_self)⟩ hK hP hD hE va_S.rf hB (LH_entry hl hcat)
theorem Cn.mono {y : MethodName} {as : List Value} {Q' : Option Value → AH → Prop} (H : Cn w y M as h Q) (hq : ∀ v h', Q v h' → Q' v h') : Cn w y M as h Q' := by
  intro p e ha hc hk s m args below hf happ hP hK
  obtain ⟨n, o, h1, h2, h3, ⟨v, h', e1, e2, e3⟩, h5⟩ := H p e ha hc hk s m args below hf happ hP hK
  exact ⟨n, o, h1, h2, h3, ⟨v, h', e1, hq v h' e2, e3⟩, h5⟩
/-- the state behind a call, seen from the caller -/
theorem run_X {p : Program} {e : Env} {R : Room} {s : State} {m : MethodId} {args : Array Value} {below : List Frame} {meth : Method} {c : Code} {H : Heap} {locs : List Loc} {mc ms : Nat} {ls : Array Slot} {st0 rest : List Value} {Z : State → Prop} {a : Array Value} {Q' : Option Value → AH → Prop}
    (hr : va_Run p w.la e R s m args below meth c H locs kc ns mc ms (F0 m pc ls st0) rest (QcX w Q' a) (wA w)) (hS : va_S (wA w) s.heap H locs)
    (kk : ∀ (v : Option Value) (h' : AH) (H1 : Heap) (locs1 : List Loc) (tys : List (ClassId × FieldType)) (ws : va_W), Q' v h' → va_K w.dg vwCl tys s → va_P w.dg vwCl ws H1 → va_D (wA w) ws → Em tys ws h' → va_S (wA w) s.heap H1 locs1 →
      W p w.la e R s m args below meth c H1 locs1 (kc + mc) (ns + ms) Z (F0 m (pc + 3) ls (v.toList ++ rest))) : W p w.la e R s m args below meth c H locs kc ns Z (F0 m pc ls st0) := by
  intro T hT X9
  obtain ⟨v, st₀, t, T', L', h0, X', hL, e1, e2, ⟨v2, h', hv, hq, ⟨tys, ws, k1, k2, k3, k4⟩, hz, hk⟩, sts⟩ := hr T hT X9
  cases hv
  rw [h0] at hz hk
  obtain ⟨t2, a1, b1⟩ := kk v h' T'.heap (locs ++ L') tys ws hq (va_K.moved (by rw [← e2]; exact X'.warmed.alike.symm) k1) (by rw [e1]; exact k2) k3 k4
    ⟨Nat.le_trans hS.1 (by rw [e1]; exact hz), fun q h1 h2 => by rw [e1, hk q (Nat.lt_of_lt_of_le h1 hS.1) h2]; exact hS.2.1 q h1 h2, fun q hq => by
      rcases List.mem_append.mp hq with h | h
      · exact hS.2.2 q h
      · exact hL q h⟩ T' rfl X'
  exact ⟨t2, sts t2 a1, b1⟩
theorem PcX_blind {as : List Value} : FrameBlind (PcX w as h) := by
  intro a U g mk ⟨h1, ⟨tys, ws, h2, h3, h4, h5⟩, h6⟩
  exact ⟨h1, ⟨tys, ws, va_K.moved (u := U) (U := U.calling g mk a) (Vm.Alike.refl U.vm) h2, h3, h4, h5⟩, SB.to (s := U) (U := U.calling g mk a) h6 (State.WarmedH.refl U) (Nat.le_refl _) (fun _ _ _ => rfl)⟩
theorem PcX_at {s U : State} {H : Heap} {locs : List Loc} {tys : List (ClassId × FieldType)} {ws : va_W} {as : List Value} (hK : va_K w.dg vwCl tys s) (hP : va_P w.dg vwCl ws H) (hD : va_D (wA w) ws) (hE : Em tys ws h) (hS : va_S (wA w) s.heap H locs) (hB : SB w s s.heap) (hU : U.heap = H) (hW : s.WarmedH U.vm) : PcX w as h as.toArray U :=
  ⟨rfl, ⟨tys, ws, va_K.moved hW.alike hK, by rw [hU]; exact hP, hD, hE⟩, hB.to hW (by rw [hU]; exact hS.1) (fun a h1 h2 => by rw [hU]; exact hS.2.1 a h1 h2)⟩
theorem recv_X {s : State} {H : Heap} {tys : List (ClassId × FieldType)} {ws : va_W} {b ci N : Nat} {Cl : String} {T : u_T} {ty : Nat → FieldType} {ks : List Bool} (hK : va_K w.dg vwCl tys s) (hP : va_P w.dg vwCl ws H) (hE : Em tys ws h) (hci : CI ci Cl T N ty ks) (hb : gT h b = ci + 1) : ∃ cell : Cell, H[b]? = some cell ∧ cell.vm.isStatics = false ∧ s.vm.findClass Cl = some cell.cls := by
  obtain ⟨c1, -, -, -, c5, -, c7, -⟩ := hci
  obtain ⟨q0, he⟩ := hE.obj hb c5 c7
  exact va_recv hK hP c1 he
theorem CallB_of {R : Room} {s : State} {args : Array Value} {own : String} {idx n : Nat} {y : MethodName} {M' : MI} (hts : ∀ t ∈ TB, t.before args s = true) (hc : MC y M' n) (hl : Cond.methodLink own idx y ∈ TB) (hR : M'.rm.frames + 1 ≤ R.frames ∧ 8 + (M'.ml + 11) + M'.rm.locals ≤ R.locals) :
    CallB R s args own idx y M'.cd M'.ml M'.rt (Cond.code y M'.cd M'.ml M'.rt :: TB) M'.rm M'.rm.cells M'.rm.slots n := by
  obtain ⟨h1, h2, h3, h4, h5, h6, h7, h8⟩ := hc
  exact callB_of n hts (goodTB (fun t ht => (List.mem_cons.mp ht).elim (fun e => by rw [e]; exact h1) id)) rfl rfl rfl (hts _ h2) (hts _ hl) ⟨h3.1, h3.2, h4⟩ hR
theorem x_callV {idx n b ci N : Nat} {Cl : String} {T : u_T} {ty : Nat → FieldType} {ks : List Bool} {y : MethodName} {M' : MI} {as : List Value} {Q' : Option Value → AH → Prop} (hd : decode M.cd pc = .ok (.invokevirtual idx, 3)) (hlk : LkV M.ow idx y) (hc : MC y M' n) (hf : Fit M' M) (hci : CI ci y.cls T N ty ks) (hn : as.length = n) (hst : (st.map fun v => v.category).sum ≤ 8) (hcl : kc + M'.rm.cells ≤ M.rm.cells) (hsl : ns + M'.rm.slots ≤ M.rm.slots)
    (ht : gT h b = ci + 1) (hm : Cn w y M' (.ref b :: as) h Q') (k : ∀ v h', Q' v h' → X w M Q QX (kc + M'.rm.cells) (ns + M'.rm.slots) (pc + 3) L (v.toList ++ st) h') : X w M Q QX kc ns pc L (as.reverse ++ .ref b :: st) h := by
  intro p e s m args below meth c H locs tys ws ls C hK hP hD hE hS hB hl
  have C0 := C
  obtain ⟨hx, hb, hml, hr, hlock, hown, hts, hin, htab⟩ := C
  refine run_X (va_runV (As := as) (rest := st) ⟨hx, hb, hml, hown, hts⟩ hm ⟨CallB_of hts hc hlk.1 hf, hts _ hlk.2.1, hts _ hlk.2.2⟩ ⟨PcX_blind, recv_X hK hP hE hci ht, fun U hU hW => PcX_at hK hP hD hE hS hB hU hW⟩ rfl hn hl.1 rfl (lv_room hst) hd ⟨hcl, hsl⟩) hS (fun v h' H1 locs1 tys1 ws1 q1 q2 q3 q4 q5 q6 => ?_)
  exact k v h' q1 p e s m args below meth c H1 locs1 tys1 ws1 ls C0 q2 q3 q4 q5 q6 hB hl
theorem x_callS {idx n : Nat} {y : MethodName} {M' : MI} {as : List Value} {Q' : Option Value → AH → Prop} (hd : decode M.cd pc = .ok (.invokestatic idx, 3)) (hlk : LkS M.ow idx y) (hc : MC y M' n) (hf : Fit M' M) (hn : as.length = n) (hst : (st.map fun v => v.category).sum ≤ 8) (hcl : kc + M'.rm.cells ≤ M.rm.cells) (hsl : ns + M'.rm.slots ≤ M.rm.slots)
    (hm : Cn w y M' as h Q') (k : ∀ v h', Q' v h' → X w M Q QX (kc + M'.rm.cells) (ns + M'.rm.slots) (pc + 3) L (v.toList ++ st) h') : X w M Q QX kc ns pc L (as.reverse ++ st) h := by
  intro p e s m args below meth c H locs tys ws ls C hK hP hD hE hS hB hl
  have C0 := C
  obtain ⟨hx, hb, hml, hr, hlock, hown, hts, hin, htab⟩ := C
  refine run_X (va_runS (As := as) (rest := st) ⟨hx, hb, hml, hown, hts⟩ hm ⟨CallB_of hts hc hlk.1 hf, hts _ hlk.2⟩ ⟨PcX_blind, fun U hU hW => PcX_at hK hP hD hE hS hB hU hW⟩ rfl hn hl.1 rfl (lv_room hst) hd ⟨hcl, hsl⟩) hS (fun v h' H1 locs1 tys1 ws1 q1 q2 q3 q4 q5 q6 => ?_)
  exact k v h' q1 p e s m args below meth c H1 locs1 tys1 ws1 ls C0 q2 q3 q4 q5 q6 hB hl
theorem x_callI {idx n b : Nat} {y : MethodName} {M' : MI} {as : List Value} {Q' : Option Value → AH → Prop} (hd : decode M.cd pc = .ok (.invokespecial idx, 3)) (hlk : LkI M.ow idx y) (hc : MC y M' n) (hrt : M'.rt = none) (hf : Fit M' M) (hn : as.length = n) (hst : (st.map fun v => v.category).sum ≤ 8) (hcl : kc + M'.rm.cells ≤ M.rm.cells) (hsl : ns + M'.rm.slots ≤ M.rm.slots)
    (hm : Cn w y M' (.ref b :: as) h Q') (k : ∀ v h', Q' v h' → X w M Q QX (kc + M'.rm.cells) (ns + M'.rm.slots) (pc + 3) L (v.toList ++ st) h') : X w M Q QX kc ns pc L (as.reverse ++ .ref b :: st) h := by
  intro p e s m args below meth c H locs tys ws ls C hK hP hD hE hS hB hl
  have C0 := C
  obtain ⟨hx, hb, hml, hr, hlock, hown, hts, hin, htab⟩ := C
  have hcb := CallB_of (R := M.rm) hts hc hlk.1 hf
  unfold Cn at hm
  rw [hrt] at hcb hm
  refine run_X (va_runI (As := as) (rest := st) ⟨hx, hb, hml, hown, hts⟩ hm ⟨hcb, hlk.2.2, hts _ hlk.2.1⟩ ⟨PcX_blind, fun U hU hW => PcX_at hK hP hD hE hS hB hU hW⟩ rfl hn hl.1 rfl (lv_room hst) hd ⟨hcl, hsl⟩) hS (fun v h' H1 locs1 tys1 ws1 q1 q2 q3 q4 q5 q6 => ?_)
  exact k v h' q1 p e s m args below meth c H1 locs1 tys1 ws1 ls C0 q2 q3 q4 q5 q6 hB hl
theorem x_callN {idx n : Nat} {y : MethodName} {M' : MI} {as : List Value} {Q' : Option Value → AH → Prop} (hd : decode M.cd pc = .ok (.invokestatic idx, 3)) (hlk : LkN M.ow idx y) (hc : MC y M' n) (hf : Fit M' M) (hn : as.length = n) (hst : (st.map fun v => v.category).sum ≤ 8) (hcl : kc + M'.rm.cells ≤ M.rm.cells) (hsl : ns + M'.rm.slots ≤ M.rm.slots)
    (hm : Cn w y M' as h Q') (k : ∀ v h', Q' v h' → X w M Q QX (kc + M'.rm.cells) (ns + M'.rm.slots) (pc + 3) L (v.toList ++ st) h') : X w M Q QX kc ns pc L (as.reverse ++ st) h := by
  intro p e s m args below meth c H locs tys ws ls C hK hP hD hE hS hB hl
  have C0 := C
  obtain ⟨hx, hb, hml, hr, hlock, hown, hts, hin, htab⟩ := C
  obtain ⟨h1, h2, h3, h4, h5, h6, h7, h8⟩ := hc
  have hcn : va_CN M.rm s args M.ow idx y y.cls M'.cd M'.ml M'.rt (Cond.code y M'.cd M'.ml M'.rt :: TB) M'.rm M'.rm.cells M'.rm.slots n := va_cnB n hts (goodTB (fun t ht => (List.mem_cons.mp ht).elim (fun e => by rw [e]; exact h1) id)) rfl rfl rfl (hB.2.2.2.2.2.2.2.2.2.1 _ hlk.1) (hts _ h2) ⟨h3.1, h3.2, h4⟩ hf
  refine run_X (va_runSN (As := as) (rest := st) ⟨hx, hb, hml, hown, hts⟩ hm ⟨hcn, hts _ hlk.2, trivial⟩ ⟨PcX_blind, fun U hU hW => PcX_at hK hP hD hE hS hB hU hW⟩ rfl hn hl.1 rfl (lv_room hst) hd ⟨hcl, hsl⟩) hS (fun v h' H1 locs1 tys1 ws1 q1 q2 q3 q4 q5 q6 => ?_)
  exact k v h' q1 p e s m args below meth c H1 locs1 tys1 ws1 ls C0 q2 q3 q4 q5 q6 hB hl
/-- a static call of a method with handlers of its own -/
theorem x_callH {idx n : Nat} {y : MethodName} {M' : MI} {as : List Value} {Q' : Option Value → AH → Prop} (hd : decode M.cd pc = .ok (.invokestatic idx, 3)) (hlk : LkS M.ow idx y) (hc : MCh y M' n) (hf : Fit M' M) (hn : as.length = n) (hst : (st.map fun v => v.category).sum ≤ 8) (hcl : kc + M'.rm.cells ≤ M.rm.cells) (hsl : ns + M'.rm.slots ≤ M.rm.slots)
    (hm : Ch w y M' as h Q') (k : ∀ v h', Q' v h' → X w M Q QX (kc + M'.rm.cells) (ns + M'.rm.slots) (pc + 3) L (v.toList ++ st) h') : X w M Q QX kc ns pc L (as.reverse ++ st) h := by
  intro p e s m args below meth c H locs tys ws ls C hK hP hD hE hS hB hl
  have C0 := C
  obtain ⟨hx, hb, hml, hr, hlock, hown, hts, hin, htab⟩ := C
  obtain ⟨h1, h2, h3, h4, h5, h6, h8⟩ := hc
  have hg : GoodIn TB (va_wsS M.ow idx y (Cond.codeWith y M'.cd M'.ml M'.rt M'.hh :: TB)) := goodTB (fun t ht => by
    rcases List.mem_append.mp ht with ht | ht
    · simp only [List.mem_cons, List.not_mem_nil, or_false] at ht
      rcases ht with rfl | rfl | rfl
      · exact hlk.1
      · exact hlk.2
      · exact h2
    · exact (List.mem_cons.mp ht).elim (fun e => by rw [e]; exact h1) id)
  refine run_X (vx_runSW (hh := M'.hh) (As := as) (rest := st) ⟨hx, hb, hml, hown, hts⟩ hm (vx_cwSW n hts hg rfl rfl rfl ⟨h3.1, h3.2, h4⟩ hf) ⟨PcX_blind, fun U hU hW => PcX_at hK hP hD hE hS hB hU hW⟩ rfl hn hl.1 rfl (lv_room hst) hd ⟨hcl, hsl⟩) hS (fun v h' H1 locs1 tys1 ws1 q1 q2 q3 q4 q5 q6 => ?_)
  exact k v h' q1 p e s m args below meth c H1 locs1 tys1 ws1 ls C0 q2 q3 q4 q5 q6 hB hl
/-- where a throw of E at pc is caught -/
def HDL (M : MI) (E : String) (pc tgt : Nat) : Prop := ∃ (pre : List ExceptionTableEntry) (x : ExceptionTableEntry) (suf : List ExceptionTableEntry) (name : String), tableOf M.hh = pre ++ x :: suf ∧
  (∀ z ∈ pre, covers z pc = false ∨ (z.catchType ≠ 0 ∧ ∃ nm : String, Cond.classLink M.ow z.catchType nm ∈ TB ∧ (E, nm) ∈ NCl)) ∧ covers x pc = true ∧ x.catchType ≠ 0 ∧ Cond.classLink M.ow x.catchType name ∈ TB ∧ Cond.castable E name ∈ NWl ∧ x.handlerPc = tgt
theorem x_callX {idx n b ci N : Nat} {Cl : String} {T : u_T} {ty : Nat → FieldType} {ks : List Bool} {y : MethodName} {M' : MI} {as : List Value} {Q' : Option Value → AH → Prop} {QX' : String → AH → Prop} (hd : decode M.cd pc = .ok (.invokevirtual idx, 3)) (hlk : LkV M.ow idx y) (hc : MC y M' n) (hf : Fit M' M) (hci : CI ci y.cls T N ty ks) (hn : as.length = n) (hst : (st.map fun v => v.category).sum ≤ 8) (hcl : kc + M'.rm.cells ≤ M.rm.cells) (hsl : ns + M'.rm.slots ≤ M.rm.slots)
    (ht : gT h b = ci + 1) (hm : Cv w y M' (.ref b :: as) h Q' QX') (k : ∀ v h', Q' v h' → X w M Q QX (kc + M'.rm.cells) (ns + M'.rm.slots) (pc + 3) L (v.toList ++ st) h')
    (kx : ∀ E h', QX' E h' → ∃ tgt, HDL M E pc tgt ∧ ∀ q, X w M Q QX (kc + M'.rm.cells) (ns + M'.rm.slots) tgt L [.ref q] h') : X w M Q QX kc ns pc L (as.reverse ++ .ref b :: st) h := by
  intro p e s m args below meth c H locs tys ws ls C hK hP hD hE hS hB hl
  have C0 := C
  obtain ⟨hx, hb, hml, hr, hlock, hown, hts, hin, htab⟩ := C
  have hr0 := vx_runV (l := w.la) (p := p) (e := e) (below := below) (meth := meth) (locs := locs) (cells := kc) (slots := ns) (g := F0 m pc ls (as.reverse ++ .ref b :: st)) (As := as) (rest := st) ⟨hx, hb, hml, hown, hts⟩ hm ⟨CallB_of (R := M.rm) hts hc hlk.1 hf, hts _ hlk.2.1, hts _ hlk.2.2⟩ ⟨PcX_blind, recv_X hK hP hE hci ht, fun U hU hW => PcX_at hK hP hD hE hS hB hU hW⟩ rfl hn hl.1 rfl (lv_room hst) hd ⟨hcl, hsl⟩
  intro T hT X9
  rcases hr0 T hT X9 with ⟨v, st₀, t, T', L', h0, X', hL, e1, e2, ⟨v2, h', hv, hq, ⟨tys1, ws1, k1, k2, k3, k4⟩, hz, hk⟩, sts⟩ | ⟨q, st₀, t, T', L', E, ce, h0, X', hL, e1, e2, ⟨h', hq, ⟨tys1, ws1, k1, k2, k3, k4⟩, hz, hk⟩, hce, hcv, hcl1, sts⟩
  · cases hv
    rw [h0] at hz hk
    have hS1 : va_S (wA w) s.heap T'.heap (locs ++ L') := ⟨Nat.le_trans hS.1 (by rw [e1]; exact hz), fun q h1 h2 => by rw [e1, hk q (Nat.lt_of_lt_of_le h1 hS.1) h2]; exact hS.2.1 q h1 h2, fun q hq => by
      rcases List.mem_append.mp hq with h | h
      · exact hS.2.2 q h
      · exact hL q h⟩
    obtain ⟨t2, a1, b1⟩ := k v h' hq p e s m args below meth c T'.heap (locs ++ L') tys1 ws1 ls C0 (va_K.moved (by rw [← e2]; exact X'.warmed.alike.symm) k1) (by rw [e1]; exact k2) k3 k4 hS1 hB hl T' rfl X'
    exact ⟨t2, sts t2 a1, b1⟩
  · rw [h0] at hz hk
    have hS1 : va_S (wA w) s.heap T'.heap (locs ++ L') := ⟨Nat.le_trans hS.1 (by rw [e1]; exact hz), fun q h1 h2 => by rw [e1, hk q (Nat.lt_of_lt_of_le h1 hS.1) h2]; exact hS.2.1 q h1 h2, fun q hq => by
      rcases List.mem_append.mp hq with h | h
      · exact hS.2.2 q h
      · exact hL q h⟩
    obtain ⟨tgt, ⟨pre, x, suf, name, g1, g2, g3, g4, g5, g6, g7⟩, kX⟩ := kx E h' hq
    have w1 := kX q p e s m args below meth c T'.heap (locs ++ L') tys1 ws1 ls C0 (va_K.moved (by rw [← e2]; exact X'.warmed.alike.symm) k1) (by rw [e1]; exact k2) k3 k4 hS1 hB hl
    rw [← g7] at w1
    have w2 := vx_catch (rest := st) (ce := ce) hown pre x suf (by rw [htab]; exact g1) (fun z hz => (g2 z hz).imp id (fun z1 => ⟨z1.1, by obtain ⟨nm, z2, z3⟩ := z1.2; exact ⟨nm, hts _ z2, hB.2.2.2.2.2.2.2.2.2.2.2.1 _ z3⟩⟩)) g3 g4 (hts _ g5) (va_Nw.use rfl (hB.2.2.2.2.2.2.2.2.2.1 _ g6)) (by rw [e1]; exact hce) hcv hcl1 w1
    obtain ⟨t2, a1, b1⟩ := w2 T' rfl X'
    exact ⟨t2, sts.trans a1, b1⟩
def exN : List String := ["java/lang/RuntimeException", "java/lang/Exception"]
/-- what a 'throw new E(text)' needs of the tables -/
def TH (own cls : String) (ik is ic : Nat) : Prop :=
  Bundle.fit cls = true ∧ Cond.classLink own ik cls ∈ TB ∧ Cond.initialized cls ∈ TB ∧ (∃ text, (own, is, text) ∈ STl) ∧ (∀ t ∈ vx_atS own ic cls exN, t ∈ TB ∨ t ∈ NWl) ∧ (∀ t ∈ Cond.classLink own ik cls :: Cond.initialized cls :: vx_atS own ic cls exN, vx_ot t = true)
theorem NWl_onT : ∀ c ∈ NWl, c.onTables = true := by decide +kernel
theorem x_throw {cls : String} {ik is ic : Nat} (d0 : decode M.cd pc = .ok (.new ik, 3)) (d3 : decode M.cd (pc + 3) = .ok (.dup, 1)) (d4 : decode M.cd (pc + 4) = .ok (.ldc is, 2)) (d6 : decode M.cd (pc + 6) = .ok (.invokespecial ic, 3)) (d9 : decode M.cd (pc + 9) = .ok (.athrow, 1)) (hth : TH M.ow cls ik is ic)
    (hh : M.hh = []) (hf : 5 < M.rm.frames) (hlo : (st.map fun v => v.category).sum + 82 ≤ M.rm.locals) (hc : kc + 1 ≤ M.rm.cells) (hs : ns + 6 ≤ M.rm.slots) (hq : QX cls h) : X w M Q QX kc ns pc L st h := by
  intro p e s m args below meth c H locs tys ws ls C hK hP hD hE hS hB hl
  have C0 := C
  obtain ⟨hx, hb, hml, hr, hlock, hown, hts, hin, htab⟩ := C
  obtain ⟨g1, g2, g3, ⟨text, g4⟩, g5, g6⟩ := hth
  obtain ⟨sa, hsa⟩ := hB.2.2.2.2.2.2.2.2.2.2.1 _ g4
  exact vx_throwS (names := exN) (own := M.ow) (ik := ik) (ic := ic) (text := text) hx hb hB.1 hown g1 (by decide +kernel) (hts _ g2) (hts _ g3) hsa (fun t ht => (g5 t ht).elim (hts t) (fun z => va_Nw.use (NWl_onT t z) (hB.2.2.2.2.2.2.2.2.2.1 t z))) g6 hB.2.2.1 hB.2.2.2.1 hS (by rw [hml, hl.1]) d0 d3 d4 d6 d9 (fun x hx2 => by rw [htab, hh] at hx2; cases hx2)
    hf hlo hc hs hlock (fun t ht hz hk => ⟨h, hq, ⟨tys, ws, va_K.moved ht hK, hP.kept (fun k q hk2 => hk q.1 ((hP k q hk2).lt)), hD, hE⟩, Nat.le_trans hS.1 hz, fun q h1 h2 => by rw [hk q (Nat.lt_of_lt_of_le h1 hS.1)]; exact hS.2.1 q h1 h2⟩) hS.2.2 hc hs
end XC
end
section
/-! facts of the tables: classes, methods, links (by program) -/
theorem ciX0 : CI 0 RX0 TX0 10 tyX0 (clsL.getD 0 []) := ⟨rfl, by decide +kernel, tyX0_ok, nmX0, rfl, rfl, by decide, by decide +kernel⟩
theorem ciX1 : CI 1 RX1 TX1 3 tyX1 (clsL.getD 1 []) := ⟨rfl, by decide +kernel, tyX1_ok, nmX1, rfl, rfl, by decide, by decide +kernel⟩
theorem ciX2 : CI 2 RX2 TX2 3 tyX2 (clsL.getD 2 []) := ⟨rfl, by decide +kernel, tyX2_ok, nmX2, rfl, rfl, by decide, by decide +kernel⟩
theorem ciX3 : CI 3 RX3 TX3 1 tyX3 (clsL.getD 3 []) := ⟨rfl, by decide +kernel, tyX3_ok, nmX3, rfl, rfl, by decide, by decide +kernel⟩
theorem ciX4 : CI 4 RX4 TX4 7 tyX4 (clsL.getD 4 []) := ⟨rfl, by decide +kernel, tyX4_ok, nmX4, rfl, rfl, by decide, by decide +kernel⟩
theorem ciX5 : CI 5 RX5 TX5 1 tyX5 (clsL.getD 5 []) := ⟨rfl, by decide +kernel, tyX5_ok, nmX5, rfl, rfl, by decide, by decide +kernel⟩
theorem ciX6 : CI 6 RX6 TX6 5 tyX6 (clsL.getD 6 []) := ⟨rfl, by decide +kernel, tyX6_ok, nmX6, rfl, rfl, by decide, by decide +kernel⟩
theorem ciX7 : CI 7 RX7 TX7 2 tyX7 (clsL.getD 7 []) := ⟨rfl, by decide +kernel, tyX7_ok, nmX7, rfl, rfl, by decide, by decide +kernel⟩
theorem ciX8 : CI 8 RX8 TX8 15 tyX8 (clsL.getD 8 []) := ⟨rfl, by decide +kernel, tyX8_ok, nmX8, rfl, rfl, by decide, by decide +kernel⟩
theorem ciX9 : CI 9 RX9 TX9 35 tyX9 (clsL.getD 9 []) := ⟨rfl, by decide +kernel, tyX9_ok, nmX9, rfl, rfl, by decide, by decide +kernel⟩
abbrev mX0_init : MI := (RX0, cX0_init, 8, none, { frames := 1, cells := 0, slots := 0, locals := 20 }, true, [])
theorem mcX0_init : MC yX0_init mX0_init 7 := ⟨inT 397 (by decide +kernel) rfl, inT 14 (by decide +kernel) rfl, ⟨by decide +kernel, by decide +kernel⟩, by decide +kernel, by decide +kernel, rfl, rfl, fun _ => rfl⟩
abbrev mX0_frames : MI := (RX0, cX0_frames, 1, (some FieldType.int), { frames := 0, cells := 0, slots := 0, locals := 0 }, false, [])
theorem mcX0_frames : MC yX0_frames mX0_frames 0 := ⟨inT 184 (by decide +kernel) rfl, inT 14 (by decide +kernel) rfl, ⟨by decide +kernel, by decide +kernel⟩, by decide +kernel, by decide +kernel, rfl, rfl, fun z => nomatch z⟩
abbrev mX0_end : MI := (RX0, cX0_end, 1, (some FieldType.int), { frames := 0, cells := 0, slots := 0, locals := 0 }, false, [])
theorem mcX0_end : MC yX0_end mX0_end 0 := ⟨inT 595 (by decide +kernel) rfl, inT 14 (by decide +kernel) rfl, ⟨by decide +kernel, by decide +kernel⟩, by decide +kernel, by decide +kernel, rfl, rfl, fun z => nomatch z⟩
abbrev mX0_outermost : MI := (RX0, cX0_outermost, 2, (some (FieldType.object "Stowfinish$Block")), { frames := 0, cells := 0, slots := 0, locals := 0 }, false, [])
theorem mcX0_outermost : MC yX0_outermost mX0_outermost 0 := ⟨inT 221 (by decide +kernel) rfl, inT 14 (by decide +kernel) rfl, ⟨by decide +kernel, by decide +kernel⟩, by decide +kernel, by decide +kernel, rfl, rfl, fun z => nomatch z⟩
abbrev mX0_tonsAt : MI := (RX0, cX0_tonsAt, 4, (some FieldType.int), { frames := 1, cells := 0, slots := 0, locals := 20 }, false, [])
theorem mcX0_tonsAt : MC yX0_tonsAt mX0_tonsAt 1 := ⟨inT 180 (by decide +kernel) rfl, inT 14 (by decide +kernel) rfl, ⟨by decide +kernel, by decide +kernel⟩, by decide +kernel, by decide +kernel, rfl, rfl, fun z => nomatch z⟩
abbrev mX0_fact : MI := (RX0, cX0_fact, 2, (some FieldType.int), { frames := 0, cells := 0, slots := 0, locals := 0 }, false, [])
theorem mcX0_fact : MC yX0_fact mX0_fact 1 := ⟨inT 803 (by decide +kernel) rfl, inT 14 (by decide +kernel) rfl, ⟨by decide +kernel, by decide +kernel⟩, by decide +kernel, by decide +kernel, rfl, rfl, fun z => nomatch z⟩
abbrev mX1_init : MI := (RX1, cX1_init, 1, none, { frames := 1, cells := 1, slots := 36, locals := 20 }, true, [])
theorem mcX1_init : MC yX1_init mX1_init 0 := ⟨inT 37 (by decide +kernel) rfl, inT 2 (by decide +kernel) rfl, ⟨by decide +kernel, by decide +kernel⟩, by decide +kernel, by decide +kernel, rfl, rfl, fun _ => rfl⟩
abbrev mX1_roomOf : MI := (RX1, cX1_roomOf, 2, (some (FieldType.object "Stowfinish$Room")), { frames := 0, cells := 0, slots := 0, locals := 0 }, false, [])
theorem mcX1_roomOf : MC yX1_roomOf mX1_roomOf 1 := ⟨inT 536 (by decide +kernel) rfl, inT 2 (by decide +kernel) rfl, ⟨by decide +kernel, by decide +kernel⟩, by decide +kernel, by decide +kernel, rfl, rfl, fun z => nomatch z⟩
abbrev mX1_roomOn : MI := (RX1, cX1_roomOn, 3, (some (FieldType.object "Stowfinish$Room")), { frames := 1, cells := 0, slots := 0, locals := 22 }, false, [])
theorem mcX1_roomOn : MC yX1_roomOn mX1_roomOn 2 := ⟨inT 529 (by decide +kernel) rfl, inT 2 (by decide +kernel) rfl, ⟨by decide +kernel, by decide +kernel⟩, by decide +kernel, by decide +kernel, rfl, rfl, fun z => nomatch z⟩
abbrev mX1_blockAt : MI := (RX1, cX1_blockAt, 4, (some (FieldType.object "Stowfinish$Block")), { frames := 2, cells := 0, slots := 0, locals := 44 }, false, [])
theorem mcX1_blockAt : MC yX1_blockAt mX1_blockAt 2 := ⟨inT 559 (by decide +kernel) rfl, inT 2 (by decide +kernel) rfl, ⟨by decide +kernel, by decide +kernel⟩, by decide +kernel, by decide +kernel, rfl, rfl, fun z => nomatch z⟩
abbrev mX1_load : MI := (RX1, cX1_load, 3, none, { frames := 0, cells := 0, slots := 0, locals := 0 }, false, [])
theorem mcX1_load : MC yX1_load mX1_load 2 := ⟨inT 646 (by decide +kernel) rfl, inT 2 (by decide +kernel) rfl, ⟨by decide +kernel, by decide +kernel⟩, by decide +kernel, by decide +kernel, rfl, rfl, fun z => nomatch z⟩
abbrev mX1_fill : MI := (RX1, cX1_fill, 4, none, { frames := 2, cells := 12, slots := 84, locals := 42 }, false, [])
theorem mcX1_fill : MC yX1_fill mX1_fill 1 := ⟨inT 603 (by decide +kernel) rfl, inT 2 (by decide +kernel) rfl, ⟨by decide +kernel, by decide +kernel⟩, by decide +kernel, by decide +kernel, rfl, rfl, fun z => nomatch z⟩
abbrev mX1_isFull : MI := (RX1, cX1_isFull, 5, (some FieldType.boolean), { frames := 0, cells := 0, slots := 0, locals := 0 }, false, [])
theorem mcX1_isFull : MC yX1_isFull mX1_isFull 0 := ⟨inT 213 (by decide +kernel) rfl, inT 2 (by decide +kernel) rfl, ⟨by decide +kernel, by decide +kernel⟩, by decide +kernel, by decide +kernel, rfl, rfl, fun z => nomatch z⟩
abbrev mX1_painted : MI := (RX1, cX1_painted, 6, (some FieldType.int), { frames := 0, cells := 0, slots := 0, locals := 0 }, false, [])
theorem mcX1_painted : MC yX1_painted mX1_painted 0 := ⟨inT 709 (by decide +kernel) rfl, inT 2 (by decide +kernel) rfl, ⟨by decide +kernel, by decide +kernel⟩, by decide +kernel, by decide +kernel, rfl, rfl, fun z => nomatch z⟩
abbrev mX1_tonsOfCells : MI := (RX1, cX1_tonsOfCells, 6, (some FieldType.int), { frames := 2, cells := 0, slots := 0, locals := 43 }, false, [])
theorem mcX1_tonsOfCells : MC yX1_tonsOfCells mX1_tonsOfCells 0 := ⟨inT 172 (by decide +kernel) rfl, inT 2 (by decide +kernel) rfl, ⟨by decide +kernel, by decide +kernel⟩, by decide +kernel, by decide +kernel, rfl, rfl, fun z => nomatch z⟩
abbrev mX1_balance : MI := (RX1, cX1_balance, 1, (some FieldType.int), { frames := 0, cells := 0, slots := 0, locals := 0 }, false, [])
theorem mcX1_balance : MC yX1_balance mX1_balance 0 := ⟨inT 192 (by decide +kernel) rfl, inT 2 (by decide +kernel) rfl, ⟨by decide +kernel, by decide +kernel⟩, by decide +kernel, by decide +kernel, rfl, rfl, fun z => nomatch z⟩
abbrev mX1_depth : MI := (RX1, cX1_depth, 4, (some FieldType.int), { frames := 1, cells := 0, slots := 0, locals := 20 }, false, [])
theorem mcX1_depth : MC yX1_depth mX1_depth 1 := ⟨inT 200 (by decide +kernel) rfl, inT 2 (by decide +kernel) rfl, ⟨by decide +kernel, by decide +kernel⟩, by decide +kernel, by decide +kernel, rfl, rfl, fun z => nomatch z⟩
abbrev mX1_greaterDepth : MI := (RX1, cX1_greaterDepth, 1, (some FieldType.int), { frames := 2, cells := 0, slots := 0, locals := 43 }, false, [])
theorem mcX1_greaterDepth : MC yX1_greaterDepth mX1_greaterDepth 0 := ⟨inT 225 (by decide +kernel) rfl, inT 2 (by decide +kernel) rfl, ⟨by decide +kernel, by decide +kernel⟩, by decide +kernel, by decide +kernel, rfl, rfl, fun z => nomatch z⟩
abbrev mX2_init : MI := (RX2, cX2_init, 1, none, { frames := 1, cells := 1, slots := 337, locals := 20 }, true, [])
theorem mcX2_init : MC yX2_init mX2_init 0 := ⟨inT 86 (by decide +kernel) rfl, inT 6 (by decide +kernel) rfl, ⟨by decide +kernel, by decide +kernel⟩, by decide +kernel, by decide +kernel, rfl, rfl, fun _ => rfl⟩
abbrev mX2_enter : MI := (RX2, cX2_enter, 2, none, { frames := 0, cells := 0, slots := 0, locals := 0 }, false, [])
theorem mcX2_enter : MC yX2_enter mX2_enter 1 := ⟨inT 544 (by decide +kernel) rfl, inT 6 (by decide +kernel) rfl, ⟨by decide +kernel, by decide +kernel⟩, by decide +kernel, by decide +kernel, rfl, rfl, fun z => nomatch z⟩
abbrev mX2_sumOfEntries : MI := (RX2, cX2_sumOfEntries, 3, (some FieldType.int), { frames := 0, cells := 0, slots := 0, locals := 0 }, false, [])
theorem mcX2_sumOfEntries : MC yX2_sumOfEntries mX2_sumOfEntries 0 := ⟨inT 247 (by decide +kernel) rfl, inT 6 (by decide +kernel) rfl, ⟨by decide +kernel, by decide +kernel⟩, by decide +kernel, by decide +kernel, rfl, rfl, fun z => nomatch z⟩
abbrev mX3_init : MI := (RX3, cX3_init, 2, none, { frames := 1, cells := 0, slots := 0, locals := 20 }, true, [])
theorem mcX3_init : MC yX3_init mX3_init 1 := ⟨inT 765 (by decide +kernel) rfl, inT 18 (by decide +kernel) rfl, ⟨by decide +kernel, by decide +kernel⟩, by decide +kernel, by decide +kernel, rfl, rfl, fun _ => rfl⟩
abbrev mX4_init : MI := (RX4, cX4_init, 3, none, { frames := 1, cells := 0, slots := 0, locals := 20 }, true, [])
theorem mcX4_init : MC yX4_init mX4_init 2 := ⟨inT 607 (by decide +kernel) rfl, inT 17 (by decide +kernel) rfl, ⟨by decide +kernel, by decide +kernel⟩, by decide +kernel, by decide +kernel, rfl, rfl, fun _ => rfl⟩
abbrev mX4_frame : MI := (RX4, cX4_frame, 1, (some FieldType.int), { frames := 0, cells := 0, slots := 0, locals := 0 }, false, [])
theorem mcX4_frame : MC yX4_frame mX4_frame 0 := ⟨inT 176 (by decide +kernel) rfl, inT 17 (by decide +kernel) rfl, ⟨by decide +kernel, by decide +kernel⟩, by decide +kernel, by decide +kernel, rfl, rfl, fun z => nomatch z⟩
abbrev mX4_hasAllPipes : MI := (RX4, cX4_hasAllPipes, 1, (some FieldType.boolean), { frames := 0, cells := 0, slots := 0, locals := 0 }, false, [])
theorem mcX4_hasAllPipes : MC yX4_hasAllPipes mX4_hasAllPipes 0 := ⟨inT 739 (by decide +kernel) rfl, inT 17 (by decide +kernel) rfl, ⟨by decide +kernel, by decide +kernel⟩, by decide +kernel, by decide +kernel, rfl, rfl, fun z => nomatch z⟩
abbrev mX4_spoil : MI := (RX4, cX4_spoil, 2, (some FieldType.int), { frames := 0, cells := 0, slots := 0, locals := 0 }, false, [])
theorem mcX4_spoil : MC yX4_spoil mX4_spoil 0 := ⟨inT 540 (by decide +kernel) rfl, inT 17 (by decide +kernel) rfl, ⟨by decide +kernel, by decide +kernel⟩, by decide +kernel, by decide +kernel, rfl, rfl, fun z => nomatch z⟩
abbrev mX4_fact : MI := (RX4, cX4_fact, 2, (some FieldType.int), { frames := 0, cells := 0, slots := 0, locals := 0 }, false, [])
theorem mcX4_fact : MC yX4_fact mX4_fact 1 := ⟨inT 826 (by decide +kernel) rfl, inT 17 (by decide +kernel) rfl, ⟨by decide +kernel, by decide +kernel⟩, by decide +kernel, by decide +kernel, rfl, rfl, fun z => nomatch z⟩
abbrev mX5_init : MI := (RX5, cX5_init, 2, none, { frames := 1, cells := 0, slots := 0, locals := 20 }, true, [])
theorem mcX5_init : MC yX5_init mX5_init 1 := ⟨inT 57 (by decide +kernel) rfl, inT 3 (by decide +kernel) rfl, ⟨by decide +kernel, by decide +kernel⟩, by decide +kernel, by decide +kernel, rfl, rfl, fun _ => rfl⟩
abbrev mX5_seek : MI := (RX5, cX5_seek, 6, (some (FieldType.array FieldType.int)), { frames := 5, cells := 1, slots := 36, locals := 119 }, false, [])
theorem mcX5_seek : MC yX5_seek mX5_seek 2 := ⟨inT 731 (by decide +kernel) rfl, inT 3 (by decide +kernel) rfl, ⟨by decide +kernel, by decide +kernel⟩, by decide +kernel, by decide +kernel, rfl, rfl, fun z => nomatch z⟩
abbrev mX5_measure : MI := (RX5, cX5_measure, 6, none, { frames := 4, cells := 0, slots := 0, locals := 94 }, false, [])
theorem mcX5_measure : MC yX5_measure mX5_measure 1 := ⟨inT 735 (by decide +kernel) rfl, inT 3 (by decide +kernel) rfl, ⟨by decide +kernel, by decide +kernel⟩, by decide +kernel, by decide +kernel, rfl, rfl, fun z => nomatch z⟩
abbrev mX5_spreadAll : MI := (RX5, cX5_spreadAll, 7, (some FieldType.boolean), { frames := 3, cells := 0, slots := 0, locals := 68 }, false, [])
theorem mcX5_spreadAll : MC yX5_spreadAll mX5_spreadAll 1 := ⟨inT 743 (by decide +kernel) rfl, inT 3 (by decide +kernel) rfl, ⟨by decide +kernel, by decide +kernel⟩, by decide +kernel, by decide +kernel, rfl, rfl, fun z => nomatch z⟩
abbrev mX5_spread : MI := (RX5, cX5_spread, 5, (some FieldType.boolean), { frames := 2, cells := 0, slots := 0, locals := 44 }, false, [])
theorem mcX5_spread : MC yX5_spread mX5_spread 1 := ⟨inT 747 (by decide +kernel) rfl, inT 3 (by decide +kernel) rfl, ⟨by decide +kernel, by decide +kernel⟩, by decide +kernel, by decide +kernel, rfl, rfl, fun z => nomatch z⟩
abbrev mX5_lowestNearer : MI := (RX5, cX5_lowestNearer, 4, (some (FieldType.object "Stowfinish$Room")), { frames := 2, cells := 0, slots := 0, locals := 44 }, false, [])
theorem mcX5_lowestNearer : MC yX5_lowestNearer mX5_lowestNearer 1 := ⟨inT 760 (by decide +kernel) rfl, inT 3 (by decide +kernel) rfl, ⟨by decide +kernel, by decide +kernel⟩, by decide +kernel, by decide +kernel, rfl, rfl, fun z => nomatch z⟩
abbrev mX5_through : MI := (RX5, cX5_through, 4, (some (FieldType.object "Stowfinish$Room")), { frames := 1, cells := 0, slots := 0, locals := 21 }, false, [])
theorem mcX5_through : MC yX5_through mX5_through 2 := ⟨inT 753 (by decide +kernel) rfl, inT 3 (by decide +kernel) rfl, ⟨by decide +kernel, by decide +kernel⟩, by decide +kernel, by decide +kernel, rfl, rfl, fun z => nomatch z⟩
abbrev mX6_init : MI := (RX6, cX6_init, 3, none, { frames := 1, cells := 0, slots := 0, locals := 20 }, true, [])
theorem mcX6_init : MC yX6_init mX6_init 2 := ⟨inT 490 (by decide +kernel) rfl, inT 15 (by decide +kernel) rfl, ⟨by decide +kernel, by decide +kernel⟩, by decide +kernel, by decide +kernel, rfl, rfl, fun _ => rfl⟩
abbrev mX6_isScrapped : MI := (RX6, cX6_isScrapped, 1, (some FieldType.boolean), { frames := 1, cells := 0, slots := 0, locals := 21 }, false, [])
theorem mcX6_isScrapped : MC yX6_isScrapped mX6_isScrapped 0 := ⟨inT 672 (by decide +kernel) rfl, inT 15 (by decide +kernel) rfl, ⟨by decide +kernel, by decide +kernel⟩, by decide +kernel, by decide +kernel, rfl, rfl, fun z => nomatch z⟩
abbrev mX6_isStanding : MI := (RX6, cX6_isStanding, 1, (some FieldType.boolean), { frames := 1, cells := 0, slots := 0, locals := 21 }, false, [])
theorem mcX6_isStanding : MC yX6_isStanding mX6_isStanding 0 := ⟨inT 217 (by decide +kernel) rfl, inT 15 (by decide +kernel) rfl, ⟨by decide +kernel, by decide +kernel⟩, by decide +kernel, by decide +kernel, rfl, rfl, fun z => nomatch z⟩
abbrev mX6_fact : MI := (RX6, cX6_fact, 2, (some FieldType.int), { frames := 0, cells := 0, slots := 0, locals := 0 }, false, [])
theorem mcX6_fact : MC yX6_fact mX6_fact 1 := ⟨inT 814 (by decide +kernel) rfl, inT 15 (by decide +kernel) rfl, ⟨by decide +kernel, by decide +kernel⟩, by decide +kernel, by decide +kernel, rfl, rfl, fun z => nomatch z⟩
abbrev mX7_init : MI := (RX7, cX7_init, 1, none, { frames := 1, cells := 1, slots := 4, locals := 23 }, true, [])
theorem mcX7_init : MC yX7_init mX7_init 0 := ⟨inT 67 (by decide +kernel) rfl, inT 4 (by decide +kernel) rfl, ⟨by decide +kernel, by decide +kernel⟩, by decide +kernel, by decide +kernel, rfl, rfl, fun _ => rfl⟩
abbrev mX7_has : MI := (RX7, cX7_has, 2, (some FieldType.boolean), { frames := 0, cells := 0, slots := 0, locals := 0 }, false, [])
theorem mcX7_has : MC yX7_has mX7_has 1 := ⟨inT 465 (by decide +kernel) rfl, inT 4 (by decide +kernel) rfl, ⟨by decide +kernel, by decide +kernel⟩, by decide +kernel, by decide +kernel, rfl, rfl, fun z => nomatch z⟩
abbrev mX7_drawFlaw : MI := (RX7, cX7_drawFlaw, 2, (some FieldType.boolean), { frames := 0, cells := 0, slots := 0, locals := 0 }, false, [])
theorem mcX7_drawFlaw : MC yX7_drawFlaw mX7_drawFlaw 1 := ⟨inT 520 (by decide +kernel) rfl, inT 4 (by decide +kernel) rfl, ⟨by decide +kernel, by decide +kernel⟩, by decide +kernel, by decide +kernel, rfl, rfl, fun z => nomatch z⟩
abbrev mX8_init : MI := (RX8, cX8_init, 1, none, { frames := 2, cells := 10, slots := 576, locals := 43 }, true, [])
theorem mcX8_init : MC yX8_init mX8_init 0 := ⟨inT 23 (by decide +kernel) rfl, inT 1 (by decide +kernel) rfl, ⟨by decide +kernel, by decide +kernel⟩, by decide +kernel, by decide +kernel, rfl, rfl, fun _ => rfl⟩
abbrev mX8_hall : MI := (RX8, cX8_hall, 4, (some FieldType.int), { frames := 6, cells := 1, slots := 6, locals := 90 }, false, [])
theorem mcX8_hall : MC yX8_hall mX8_hall 2 := ⟨inT 255 (by decide +kernel) rfl, inT 1 (by decide +kernel) rfl, ⟨by decide +kernel, by decide +kernel⟩, by decide +kernel, by decide +kernel, rfl, rfl, fun z => nomatch z⟩
abbrev mX8_crane : MI := (RX8, cX8_crane, 4, (some FieldType.int), { frames := 6, cells := 1, slots := 6, locals := 90 }, false, [])
theorem mcX8_crane : MC yX8_crane mX8_crane 2 := ⟨inT 334 (by decide +kernel) rfl, inT 1 (by decide +kernel) rfl, ⟨by decide +kernel, by decide +kernel⟩, by decide +kernel, by decide +kernel, rfl, rfl, fun z => nomatch z⟩
abbrev mX8_welder : MI := (RX8, cX8_welder, 4, (some FieldType.int), { frames := 6, cells := 1, slots := 6, locals := 90 }, false, [])
theorem mcX8_welder : MC yX8_welder mX8_welder 2 := ⟨inT 361 (by decide +kernel) rfl, inT 1 (by decide +kernel) rfl, ⟨by decide +kernel, by decide +kernel⟩, by decide +kernel, by decide +kernel, rfl, rfl, fun z => nomatch z⟩
abbrev mX8_draw : MI := (RX8, cX8_draw, 3, (some FieldType.int), { frames := 0, cells := 0, slots := 0, locals := 0 }, false, [])
theorem mcX8_draw : MC yX8_draw mX8_draw 1 := ⟨inT 148 (by decide +kernel) rfl, inT 1 (by decide +kernel) rfl, ⟨by decide +kernel, by decide +kernel⟩, by decide +kernel, by decide +kernel, rfl, rfl, fun z => nomatch z⟩
abbrev mX8_block : MI := (RX8, cX8_block, 8, (some FieldType.int), { frames := 6, cells := 2, slots := 16, locals := 90 }, false, [])
theorem mcX8_block : MC yX8_block mX8_block 6 := ⟨inT 371 (by decide +kernel) rfl, inT 1 (by decide +kernel) rfl, ⟨by decide +kernel, by decide +kernel⟩, by decide +kernel, by decide +kernel, rfl, rfl, fun z => nomatch z⟩
abbrev mX8_join : MI := (RX8, cX8_join, 8, (some FieldType.int), { frames := 6, cells := 3, slots := 21, locals := 113 }, false, [])
theorem mcX8_join : MC yX8_join mX8_join 3 := ⟨inT 457 (by decide +kernel) rfl, inT 1 (by decide +kernel) rfl, ⟨by decide +kernel, by decide +kernel⟩, by decide +kernel, by decide +kernel, rfl, rfl, fun z => nomatch z⟩
abbrev mX8_erect : MI := (RX8, cX8_erect, 8, (some FieldType.int), { frames := 6, cells := 15, slots := 100, locals := 133 }, false, [])
theorem mcX8_erect : MC yX8_erect mX8_erect 2 := ⟨inT 551 (by decide +kernel) rfl, inT 1 (by decide +kernel) rfl, ⟨by decide +kernel, by decide +kernel⟩, by decide +kernel, by decide +kernel, rfl, rfl, fun z => nomatch z⟩
abbrev mX8_scrap : MI := (RX8, cX8_scrap, 8, (some FieldType.int), { frames := 6, cells := 1, slots := 6, locals := 90 }, false, [])
theorem mcX8_scrap : MC yX8_scrap mX8_scrap 1 := ⟨inT 653 (by decide +kernel) rfl, inT 1 (by decide +kernel) rfl, ⟨by decide +kernel, by decide +kernel⟩, by decide +kernel, by decide +kernel, rfl, rfl, fun z => nomatch z⟩
abbrev mX8_test : MI := (RX8, cX8_test, 3, (some FieldType.int), { frames := 6, cells := 1, slots := 6, locals := 90 }, false, [])
theorem mcX8_test : MC yX8_test mX8_test 1 := ⟨inT 663 (by decide +kernel) rfl, inT 1 (by decide +kernel) rfl, ⟨by decide +kernel, by decide +kernel⟩, by decide +kernel, by decide +kernel, rfl, rfl, fun z => nomatch z⟩
abbrev mX8_repair : MI := (RX8, cX8_repair, 4, (some FieldType.int), { frames := 6, cells := 1, slots := 6, locals := 90 }, false, [])
theorem mcX8_repair : MC yX8_repair mX8_repair 2 := ⟨inT 680 (by decide +kernel) rfl, inT 1 (by decide +kernel) rfl, ⟨by decide +kernel, by decide +kernel⟩, by decide +kernel, by decide +kernel, rfl, rfl, fun z => nomatch z⟩
abbrev mX8_hole : MI := (RX8, cX8_hole, 6, (some FieldType.int), { frames := 6, cells := 1, slots := 6, locals := 90 }, false, [])
theorem mcX8_hole : MC yX8_hole mX8_hole 2 := ⟨inT 689 (by decide +kernel) rfl, inT 1 (by decide +kernel) rfl, ⟨by decide +kernel, by decide +kernel⟩, by decide +kernel, by decide +kernel, rfl, rfl, fun z => nomatch z⟩
abbrev mX8_paint : MI := (RX8, cX8_paint, 3, (some FieldType.int), { frames := 6, cells := 1, slots := 6, locals := 90 }, false, [])
theorem mcX8_paint : MC yX8_paint mX8_paint 1 := ⟨inT 704 (by decide +kernel) rfl, inT 1 (by decide +kernel) rfl, ⟨by decide +kernel, by decide +kernel⟩, by decide +kernel, by decide +kernel, rfl, rfl, fun z => nomatch z⟩
abbrev mX8_fit : MI := (RX8, cX8_fit, 4, (some FieldType.int), { frames := 6, cells := 1, slots := 6, locals := 90 }, false, [])
theorem mcX8_fit : MC yX8_fit mX8_fit 2 := ⟨inT 716 (by decide +kernel) rfl, inT 1 (by decide +kernel) rfl, ⟨by decide +kernel, by decide +kernel⟩, by decide +kernel, by decide +kernel, rfl, rfl, fun z => nomatch z⟩
abbrev mX8_pipe : MI := (RX8, cX8_pipe, 6, (some FieldType.int), { frames := 6, cells := 3, slots := 43, locals := 144 }, false, [])
theorem mcX8_pipe : MC yX8_pipe mX8_pipe 2 := ⟨inT 725 (by decide +kernel) rfl, inT 1 (by decide +kernel) rfl, ⟨by decide +kernel, by decide +kernel⟩, by decide +kernel, by decide +kernel, rfl, rfl, fun z => nomatch z⟩
abbrev mX8_launch : MI := (RX8, cX8_launch, 3, (some FieldType.int), { frames := 6, cells := 1, slots := 6, locals := 90 }, false, [])
theorem mcX8_launch : MC yX8_launch mX8_launch 1 := ⟨inT 782 (by decide +kernel) rfl, inT 1 (by decide +kernel) rfl, ⟨by decide +kernel, by decide +kernel⟩, by decide +kernel, by decide +kernel, rfl, rfl, fun z => nomatch z⟩
abbrev mX8_blocks : MI := (RX8, cX8_blocks, 1, (some FieldType.int), { frames := 0, cells := 0, slots := 0, locals := 0 }, false, [])
theorem mcX8_blocks : MC yX8_blocks mX8_blocks 0 := ⟨inT 152 (by decide +kernel) rfl, inT 1 (by decide +kernel) rfl, ⟨by decide +kernel, by decide +kernel⟩, by decide +kernel, by decide +kernel, rfl, rfl, fun z => nomatch z⟩
abbrev mX8_welds : MI := (RX8, cX8_welds, 1, (some FieldType.int), { frames := 0, cells := 0, slots := 0, locals := 0 }, false, [])
theorem mcX8_welds : MC yX8_welds mX8_welds 0 := ⟨inT 156 (by decide +kernel) rfl, inT 1 (by decide +kernel) rfl, ⟨by decide +kernel, by decide +kernel⟩, by decide +kernel, by decide +kernel, rfl, rfl, fun z => nomatch z⟩
abbrev mX8_isAfloat : MI := (RX8, cX8_isAfloat, 1, (some FieldType.boolean), { frames := 0, cells := 0, slots := 0, locals := 0 }, false, [])
theorem mcX8_isAfloat : MC yX8_isAfloat mX8_isAfloat 0 := ⟨inT 160 (by decide +kernel) rfl, inT 1 (by decide +kernel) rfl, ⟨by decide +kernel, by decide +kernel⟩, by decide +kernel, by decide +kernel, rfl, rfl, fun z => nomatch z⟩
abbrev mX8_whyNot : MI := (RX8, cX8_whyNot, 3, (some FieldType.int), { frames := 6, cells := 1, slots := 6, locals := 133 }, false, [])
theorem mcX8_whyNot : MC yX8_whyNot mX8_whyNot 1 := ⟨inT 791 (by decide +kernel) rfl, inT 1 (by decide +kernel) rfl, ⟨by decide +kernel, by decide +kernel⟩, by decide +kernel, by decide +kernel, rfl, rfl, fun z => nomatch z⟩
abbrev mX8_told : MI := (RX8, cX8_told, 4, (some FieldType.int), { frames := 6, cells := 1, slots := 6, locals := 90 }, false, [])
theorem mcX8_told : MC yX8_told mX8_told 2 := ⟨inT 798 (by decide +kernel) rfl, inT 1 (by decide +kernel) rfl, ⟨by decide +kernel, by decide +kernel⟩, by decide +kernel, by decide +kernel, rfl, rfl, fun z => nomatch z⟩
abbrev mX8_weld : MI := (RX8, cX8_weld, 4, (some FieldType.int), { frames := 6, cells := 1, slots := 6, locals := 90 }, false, [])
theorem mcX8_weld : MC yX8_weld mX8_weld 2 := ⟨inT 810 (by decide +kernel) rfl, inT 1 (by decide +kernel) rfl, ⟨by decide +kernel, by decide +kernel⟩, by decide +kernel, by decide +kernel, rfl, rfl, fun z => nomatch z⟩
abbrev mX8_cell : MI := (RX8, cX8_cell, 4, (some FieldType.int), { frames := 6, cells := 1, slots := 6, locals := 90 }, false, [])
theorem mcX8_cell : MC yX8_cell mX8_cell 2 := ⟨inT 821 (by decide +kernel) rfl, inT 1 (by decide +kernel) rfl, ⟨by decide +kernel, by decide +kernel⟩, by decide +kernel, by decide +kernel, rfl, rfl, fun z => nomatch z⟩
abbrev mX8_roomAt : MI := (RX8, cX8_roomAt, 4, (some FieldType.int), { frames := 6, cells := 1, slots := 6, locals := 90 }, false, [])
theorem mcX8_roomAt : MC yX8_roomAt mX8_roomAt 2 := ⟨inT 833 (by decide +kernel) rfl, inT 1 (by decide +kernel) rfl, ⟨by decide +kernel, by decide +kernel⟩, by decide +kernel, by decide +kernel, rfl, rfl, fun z => nomatch z⟩
abbrev mX8_tons : MI := (RX8, cX8_tons, 1, (some FieldType.int), { frames := 0, cells := 0, slots := 0, locals := 0 }, false, [])
theorem mcX8_tons : MC yX8_tons mX8_tons 0 := ⟨inT 164 (by decide +kernel) rfl, inT 1 (by decide +kernel) rfl, ⟨by decide +kernel, by decide +kernel⟩, by decide +kernel, by decide +kernel, rfl, rfl, fun z => nomatch z⟩
abbrev mX8_tonsAnew : MI := (RX8, cX8_tonsAnew, 1, (some FieldType.int), { frames := 3, cells := 0, slots := 0, locals := 68 }, false, [])
theorem mcX8_tonsAnew : MC yX8_tonsAnew mX8_tonsAnew 0 := ⟨inT 168 (by decide +kernel) rfl, inT 1 (by decide +kernel) rfl, ⟨by decide +kernel, by decide +kernel⟩, by decide +kernel, by decide +kernel, rfl, rfl, fun z => nomatch z⟩
abbrev mX8_centre : MI := (RX8, cX8_centre, 1, (some FieldType.int), { frames := 1, cells := 0, slots := 0, locals := 20 }, false, [])
theorem mcX8_centre : MC yX8_centre mX8_centre 0 := ⟨inT 188 (by decide +kernel) rfl, inT 1 (by decide +kernel) rfl, ⟨by decide +kernel, by decide +kernel⟩, by decide +kernel, by decide +kernel, rfl, rfl, fun z => nomatch z⟩
abbrev mX8_draught : MI := (RX8, cX8_draught, 2, (some FieldType.int), { frames := 2, cells := 0, slots := 0, locals := 43 }, false, [])
theorem mcX8_draught : MC yX8_draught mX8_draught 1 := ⟨inT 196 (by decide +kernel) rfl, inT 1 (by decide +kernel) rfl, ⟨by decide +kernel, by decide +kernel⟩, by decide +kernel, by decide +kernel, rfl, rfl, fun z => nomatch z⟩
abbrev mX8_water : MI := (RX8, cX8_water, 2, (some FieldType.int), { frames := 6, cells := 1, slots := 6, locals := 90 }, false, [])
theorem mcX8_water : MC yX8_water mX8_water 1 := ⟨inT 841 (by decide +kernel) rfl, inT 1 (by decide +kernel) rfl, ⟨by decide +kernel, by decide +kernel⟩, by decide +kernel, by decide +kernel, rfl, rfl, fun z => nomatch z⟩
abbrev mX8_firstHour : MI := (RX8, cX8_firstHour, 3, (some FieldType.int), { frames := 3, cells := 0, slots := 0, locals := 65 }, false, [])
theorem mcX8_firstHour : MC yX8_firstHour mX8_firstHour 0 := ⟨inT 205 (by decide +kernel) rfl, inT 1 (by decide +kernel) rfl, ⟨by decide +kernel, by decide +kernel⟩, by decide +kernel, by decide +kernel, rfl, rfl, fun z => nomatch z⟩
abbrev mX8_money : MI := (RX8, cX8_money, 1, (some FieldType.int), { frames := 0, cells := 0, slots := 0, locals := 0 }, false, [])
theorem mcX8_money : MC yX8_money mX8_money 0 := ⟨inT 239 (by decide +kernel) rfl, inT 1 (by decide +kernel) rfl, ⟨by decide +kernel, by decide +kernel⟩, by decide +kernel, by decide +kernel, rfl, rfl, fun z => nomatch z⟩
abbrev mX8_moneyAnew : MI := (RX8, cX8_moneyAnew, 1, (some FieldType.int), { frames := 1, cells := 0, slots := 0, locals := 22 }, false, [])
theorem mcX8_moneyAnew : MC yX8_moneyAnew mX8_moneyAnew 0 := ⟨inT 243 (by decide +kernel) rfl, inT 1 (by decide +kernel) rfl, ⟨by decide +kernel, by decide +kernel⟩, by decide +kernel, by decide +kernel, rfl, rfl, fun z => nomatch z⟩
abbrev mX8_isWithin : MI := (RX8, cX8_isWithin, 3, (some FieldType.boolean), { frames := 0, cells := 0, slots := 0, locals := 0 }, false, [])
theorem mcX8_isWithin : MC yX8_isWithin mX8_isWithin 3 := ⟨inT 258 (by decide +kernel) rfl, inT 1 (by decide +kernel) rfl, ⟨by decide +kernel, by decide +kernel⟩, by decide +kernel, by decide +kernel, rfl, rfl, fun z => nomatch z⟩
abbrev mX8_isFrame : MI := (RX8, cX8_isFrame, 1, (some FieldType.boolean), { frames := 1, cells := 0, slots := 0, locals := 22 }, false, [])
theorem mcX8_isFrame : MC yX8_isFrame mX8_isFrame 1 := ⟨inT 337 (by decide +kernel) rfl, inT 1 (by decide +kernel) rfl, ⟨by decide +kernel, by decide +kernel⟩, by decide +kernel, by decide +kernel, rfl, rfl, fun z => nomatch z⟩
abbrev mX8_cellOf : MI := (RX8, cX8_cellOf, 3, (some FieldType.int), { frames := 0, cells := 0, slots := 0, locals := 0 }, false, [])
theorem mcX8_cellOf : MC yX8_cellOf mX8_cellOf 2 := ⟨inT 532 (by decide +kernel) rfl, inT 1 (by decide +kernel) rfl, ⟨by decide +kernel, by decide +kernel⟩, by decide +kernel, by decide +kernel, rfl, rfl, fun z => nomatch z⟩
abbrev mX8_waterAt : MI := (RX8, cX8_waterAt, 2, (some FieldType.int), { frames := 1, cells := 0, slots := 0, locals := 21 }, false, [])
theorem mcX8_waterAt : MC yX8_waterAt mX8_waterAt 1 := ⟨inT 232 (by decide +kernel) rfl, inT 1 (by decide +kernel) rfl, ⟨by decide +kernel, by decide +kernel⟩, by decide +kernel, by decide +kernel, rfl, rfl, fun z => nomatch z⟩
abbrev mX8_blockOf : MI := (RX8, cX8_blockOf, 2, (some (FieldType.object "Stowfinish$Block")), { frames := 0, cells := 0, slots := 0, locals := 0 }, false, [])
theorem mcX8_blockOf : MC yX8_blockOf mX8_blockOf 1 := ⟨inT 461 (by decide +kernel) rfl, inT 1 (by decide +kernel) rfl, ⟨by decide +kernel, by decide +kernel⟩, by decide +kernel, by decide +kernel, rfl, rfl, fun z => nomatch z⟩
abbrev mX8_weldOf : MI := (RX8, cX8_weldOf, 2, (some (FieldType.object "Stowfinish$Weld")), { frames := 0, cells := 0, slots := 0, locals := 0 }, false, [])
theorem mcX8_weldOf : MC yX8_weldOf mX8_weldOf 1 := ⟨inT 667 (by decide +kernel) rfl, inT 1 (by decide +kernel) rfl, ⟨by decide +kernel, by decide +kernel⟩, by decide +kernel, by decide +kernel, rfl, rfl, fun z => nomatch z⟩
abbrev mX8_hasSpaceForBlock : MI := (RX8, cX8_hasSpaceForBlock, 1, (some FieldType.boolean), { frames := 0, cells := 0, slots := 0, locals := 0 }, false, [])
theorem mcX8_hasSpaceForBlock : MC yX8_hasSpaceForBlock mX8_hasSpaceForBlock 0 := ⟨inT 377 (by decide +kernel) rfl, inT 1 (by decide +kernel) rfl, ⟨by decide +kernel, by decide +kernel⟩, by decide +kernel, by decide +kernel, rfl, rfl, fun z => nomatch z⟩
abbrev mX8_hasSpaceForWelds : MI := (RX8, cX8_hasSpaceForWelds, 2, (some FieldType.boolean), { frames := 0, cells := 0, slots := 0, locals := 0 }, false, [])
theorem mcX8_hasSpaceForWelds : MC yX8_hasSpaceForWelds mX8_hasSpaceForWelds 1 := ⟨inT 478 (by decide +kernel) rfl, inT 1 (by decide +kernel) rfl, ⟨by decide +kernel, by decide +kernel⟩, by decide +kernel, by decide +kernel, rfl, rfl, fun z => nomatch z⟩
abbrev mX8_keep : MI := (RX8, cX8_keep, 2, (some FieldType.int), { frames := 0, cells := 0, slots := 0, locals := 0 }, false, [])
theorem mcX8_keep : MC yX8_keep mX8_keep 1 := ⟨inT 450 (by decide +kernel) rfl, inT 1 (by decide +kernel) rfl, ⟨by decide +kernel, by decide +kernel⟩, by decide +kernel, by decide +kernel, rfl, rfl, fun z => nomatch z⟩
abbrev mX8_canJoin : MI := (RX8, cX8_canJoin, 3, (some FieldType.boolean), { frames := 1, cells := 0, slots := 0, locals := 21 }, false, [])
theorem mcX8_canJoin : MC yX8_canJoin mX8_canJoin 2 := ⟨inT 470 (by decide +kernel) rfl, inT 1 (by decide +kernel) rfl, ⟨by decide +kernel, by decide +kernel⟩, by decide +kernel, by decide +kernel, rfl, rfl, fun z => nomatch z⟩
abbrev mX8_tonsTogether : MI := (RX8, cX8_tonsTogether, 2, (some FieldType.int), { frames := 0, cells := 0, slots := 0, locals := 0 }, false, [])
theorem mcX8_tonsTogether : MC yX8_tonsTogether mX8_tonsTogether 2 := ⟨inT 474 (by decide +kernel) rfl, inT 1 (by decide +kernel) rfl, ⟨by decide +kernel, by decide +kernel⟩, by decide +kernel, by decide +kernel, rfl, rfl, fun z => nomatch z⟩
abbrev mX8_becomePart : MI := (RX8, cX8_becomePart, 2, none, { frames := 0, cells := 0, slots := 0, locals := 0 }, false, [])
theorem mcX8_becomePart : MC yX8_becomePart mX8_becomePart 2 := ⟨inT 482 (by decide +kernel) rfl, inT 1 (by decide +kernel) rfl, ⟨by decide +kernel, by decide +kernel⟩, by decide +kernel, by decide +kernel, rfl, rfl, fun z => nomatch z⟩
abbrev mX8_makeWeld : MI := (RX8, cX8_makeWeld, 5, none, { frames := 4, cells := 1, slots := 5, locals := 89 }, false, [])
theorem mcX8_makeWeld : MC yX8_makeWeld mX8_makeWeld 3 := ⟨inT 486 (by decide +kernel) rfl, inT 1 (by decide +kernel) rfl, ⟨by decide +kernel, by decide +kernel⟩, by decide +kernel, by decide +kernel, rfl, rfl, fun z => nomatch z⟩
abbrev mX8_weldNow : MI := (RX8, cX8_weldNow, 3, none, { frames := 3, cells := 0, slots := 0, locals := 67 }, false, [])
theorem mcX8_weldNow : MC yX8_weldNow mX8_weldNow 2 := ⟨inT 516 (by decide +kernel) rfl, inT 1 (by decide +kernel) rfl, ⟨by decide +kernel, by decide +kernel⟩, by decide +kernel, by decide +kernel, rfl, rfl, fun z => nomatch z⟩
abbrev mX8_spoilAt : MI := (RX8, cX8_spoilAt, 4, none, { frames := 2, cells := 0, slots := 0, locals := 44 }, false, [])
theorem mcX8_spoilAt : MC yX8_spoilAt mX8_spoilAt 2 := ⟨inT 525 (by decide +kernel) rfl, inT 1 (by decide +kernel) rfl, ⟨by decide +kernel, by decide +kernel⟩, by decide +kernel, by decide +kernel, rfl, rfl, fun z => nomatch z⟩
abbrev mX8_reasonAgainst : MI := (RX8, cX8_reasonAgainst, 2, (some FieldType.int), { frames := 5, cells := 0, slots := 0, locals := 112 }, false, [])
theorem mcX8_reasonAgainst : MC yX8_reasonAgainst mX8_reasonAgainst 1 := ⟨inT 568 (by decide +kernel) rfl, inT 1 (by decide +kernel) rfl, ⟨by decide +kernel, by decide +kernel⟩, by decide +kernel, by decide +kernel, rfl, rfl, fun z => nomatch z⟩
abbrev mX8_isSomeFilled : MI := (RX8, cX8_isSomeFilled, 3, (some FieldType.boolean), { frames := 2, cells := 0, slots := 0, locals := 44 }, false, [])
theorem mcX8_isSomeFilled : MC yX8_isSomeFilled mX8_isSomeFilled 1 := ⟨inT 572 (by decide +kernel) rfl, inT 1 (by decide +kernel) rfl, ⟨by decide +kernel, by decide +kernel⟩, by decide +kernel, by decide +kernel, rfl, rfl, fun z => nomatch z⟩
abbrev mX8_isSomeBelowEmpty : MI := (RX8, cX8_isSomeBelowEmpty, 3, (some FieldType.boolean), { frames := 2, cells := 0, slots := 0, locals := 44 }, false, [])
theorem mcX8_isSomeBelowEmpty : MC yX8_isSomeBelowEmpty mX8_isSomeBelowEmpty 1 := ⟨inT 576 (by decide +kernel) rfl, inT 1 (by decide +kernel) rfl, ⟨by decide +kernel, by decide +kernel⟩, by decide +kernel, by decide +kernel, rfl, rfl, fun z => nomatch z⟩
abbrev mX8_liftOver : MI := (RX8, cX8_liftOver, 3, (some FieldType.int), { frames := 1, cells := 0, slots := 0, locals := 21 }, false, [])
theorem mcX8_liftOver : MC yX8_liftOver mX8_liftOver 1 := ⟨inT 580 (by decide +kernel) rfl, inT 1 (by decide +kernel) rfl, ⟨by decide +kernel, by decide +kernel⟩, by decide +kernel, by decide +kernel, rfl, rfl, fun z => nomatch z⟩
abbrev mX8_isMisfit : MI := (RX8, cX8_isMisfit, 5, (some FieldType.boolean), { frames := 4, cells := 0, slots := 0, locals := 88 }, false, [])
theorem mcX8_isMisfit : MC yX8_isMisfit mX8_isMisfit 1 := ⟨inT 588 (by decide +kernel) rfl, inT 1 (by decide +kernel) rfl, ⟨by decide +kernel, by decide +kernel⟩, by decide +kernel, by decide +kernel, rfl, rfl, fun z => nomatch z⟩
abbrev mX8_neighbourAhead : MI := (RX8, cX8_neighbourAhead, 2, (some (FieldType.object "Stowfinish$Block")), { frames := 3, cells := 0, slots := 0, locals := 67 }, false, [])
theorem mcX8_neighbourAhead : MC yX8_neighbourAhead mX8_neighbourAhead 1 := ⟨inT 555 (by decide +kernel) rfl, inT 1 (by decide +kernel) rfl, ⟨by decide +kernel, by decide +kernel⟩, by decide +kernel, by decide +kernel, rfl, rfl, fun z => nomatch z⟩
abbrev mX8_neighbourBehind : MI := (RX8, cX8_neighbourBehind, 2, (some (FieldType.object "Stowfinish$Block")), { frames := 3, cells := 0, slots := 0, locals := 67 }, false, [])
theorem mcX8_neighbourBehind : MC yX8_neighbourBehind mX8_neighbourBehind 1 := ⟨inT 564 (by decide +kernel) rfl, inT 1 (by decide +kernel) rfl, ⟨by decide +kernel, by decide +kernel⟩, by decide +kernel, by decide +kernel, rfl, rfl, fun z => nomatch z⟩
abbrev mX8_excess : MI := (RX8, cX8_excess, 3, (some FieldType.int), { frames := 1, cells := 0, slots := 0, locals := 20 }, false, [])
theorem mcX8_excess : MC yX8_excess mX8_excess 3 := ⟨inT 591 (by decide +kernel) rfl, inT 1 (by decide +kernel) rfl, ⟨by decide +kernel, by decide +kernel⟩, by decide +kernel, by decide +kernel, rfl, rfl, fun z => nomatch z⟩
abbrev mX8_beginOf : MI := (RX8, cX8_beginOf, 3, (some FieldType.int), { frames := 1, cells := 0, slots := 0, locals := 20 }, false, [])
theorem mcX8_beginOf : MC yX8_beginOf mX8_beginOf 3 := ⟨inT 599 (by decide +kernel) rfl, inT 1 (by decide +kernel) rfl, ⟨by decide +kernel, by decide +kernel⟩, by decide +kernel, by decide +kernel, rfl, rfl, fun z => nomatch z⟩
abbrev mX8_roomNextTo : MI := (RX8, cX8_roomNextTo, 4, (some (FieldType.object "Stowfinish$Room")), { frames := 2, cells := 0, slots := 0, locals := 44 }, false, [])
theorem mcX8_roomNextTo : MC yX8_roomNextTo mX8_roomNextTo 2 := ⟨inT 694 (by decide +kernel) rfl, inT 1 (by decide +kernel) rfl, ⟨by decide +kernel, by decide +kernel⟩, by decide +kernel, by decide +kernel, rfl, rfl, fun z => nomatch z⟩
abbrev mX8_runThrough : MI := (RX8, cX8_runThrough, 7, none, { frames := 1, cells := 0, slots := 0, locals := 22 }, false, [])
theorem mcX8_runThrough : MC yX8_runThrough mX8_runThrough 1 := ⟨inT 775 (by decide +kernel) rfl, inT 1 (by decide +kernel) rfl, ⟨by decide +kernel, by decide +kernel⟩, by decide +kernel, by decide +kernel, rfl, rfl, fun z => nomatch z⟩
abbrev mX8_isReady : MI := (RX8, cX8_isReady, 5, (some FieldType.boolean), { frames := 2, cells := 0, slots := 0, locals := 41 }, false, [])
theorem mcX8_isReady : MC yX8_isReady mX8_isReady 0 := ⟨inT 209 (by decide +kernel) rfl, inT 1 (by decide +kernel) rfl, ⟨by decide +kernel, by decide +kernel⟩, by decide +kernel, by decide +kernel, rfl, rfl, fun z => nomatch z⟩
abbrev mX9_init : MI := (RX9, cX9_init, 2, none, { frames := 1, cells := 24, slots := 2470, locals := 20 }, true, [])
theorem mcX9_init : MC yX9_init mX9_init 0 := ⟨inT 846 (by decide +kernel) rfl, inT 7 (by decide +kernel) rfl, ⟨by decide +kernel, by decide +kernel⟩, by decide +kernel, by decide +kernel, rfl, rfl, fun _ => rfl⟩
abbrev mX9_thrown : MI := (RX9, cX9_thrown, 1, (some FieldType.int), { frames := 0, cells := 0, slots := 0, locals := 0 }, false, [])
theorem mcX9_thrown : MC yX9_thrown mX9_thrown 0 := ⟨inT 958 (by decide +kernel) rfl, inT 7 (by decide +kernel) rfl, ⟨by decide +kernel, by decide +kernel⟩, by decide +kernel, by decide +kernel, rfl, rfl, fun z => nomatch z⟩
abbrev mX9_fails : MI := (RX9, cX9_fails, 2, (some FieldType.boolean), { frames := 0, cells := 0, slots := 0, locals := 0 }, false, [])
theorem mcX9_fails : MC yX9_fails mX9_fails 1 := ⟨inT 969 (by decide +kernel) rfl, inT 7 (by decide +kernel) rfl, ⟨by decide +kernel, by decide +kernel⟩, by decide +kernel, by decide +kernel, rfl, rfl, fun z => nomatch z⟩
abbrev mX9_isIn : MI := (RX9, cX9_isIn, 3, (some FieldType.boolean), { frames := 0, cells := 0, slots := 0, locals := 0 }, false, [])
theorem mcX9_isIn : MC yX9_isIn mX9_isIn 3 := ⟨inT 965 (by decide +kernel) rfl, inT 7 (by decide +kernel) rfl, ⟨by decide +kernel, by decide +kernel⟩, by decide +kernel, by decide +kernel, rfl, rfl, fun z => nomatch z⟩
abbrev mX9_isFrame : MI := (RX9, cX9_isFrame, 1, (some FieldType.boolean), { frames := 1, cells := 0, slots := 0, locals := 22 }, false, [])
theorem mcX9_isFrame : MC yX9_isFrame mX9_isFrame 1 := ⟨inT 976 (by decide +kernel) rfl, inT 7 (by decide +kernel) rfl, ⟨by decide +kernel, by decide +kernel⟩, by decide +kernel, by decide +kernel, rfl, rfl, fun z => nomatch z⟩
abbrev mX9_isLevel : MI := (RX9, cX9_isLevel, 1, (some FieldType.boolean), { frames := 1, cells := 0, slots := 0, locals := 22 }, false, [])
theorem mcX9_isLevel : MC yX9_isLevel mX9_isLevel 1 := ⟨inT 994 (by decide +kernel) rfl, inT 7 (by decide +kernel) rfl, ⟨by decide +kernel, by decide +kernel⟩, by decide +kernel, by decide +kernel, rfl, rfl, fun z => nomatch z⟩
abbrev mX9_isWelder : MI := (RX9, cX9_isWelder, 1, (some FieldType.boolean), { frames := 1, cells := 0, slots := 0, locals := 22 }, false, [])
theorem mcX9_isWelder : MC yX9_isWelder mX9_isWelder 1 := ⟨inT 983 (by decide +kernel) rfl, inT 7 (by decide +kernel) rfl, ⟨by decide +kernel, by decide +kernel⟩, by decide +kernel, by decide +kernel, rfl, rfl, fun z => nomatch z⟩
abbrev mX9_isBlock : MI := (RX9, cX9_isBlock, 2, (some FieldType.boolean), { frames := 1, cells := 0, slots := 0, locals := 22 }, false, [])
theorem mcX9_isBlock : MC yX9_isBlock mX9_isBlock 1 := ⟨inT 1006 (by decide +kernel) rfl, inT 7 (by decide +kernel) rfl, ⟨by decide +kernel, by decide +kernel⟩, by decide +kernel, by decide +kernel, rfl, rfl, fun z => nomatch z⟩
abbrev mX9_isWeld : MI := (RX9, cX9_isWeld, 2, (some FieldType.boolean), { frames := 1, cells := 0, slots := 0, locals := 22 }, false, [])
theorem mcX9_isWeld : MC yX9_isWeld mX9_isWeld 1 := ⟨inT 1059 (by decide +kernel) rfl, inT 7 (by decide +kernel) rfl, ⟨by decide +kernel, by decide +kernel⟩, by decide +kernel, by decide +kernel, rfl, rfl, fun z => nomatch z⟩
abbrev mX9_isRoom : MI := (RX9, cX9_isRoom, 2, (some FieldType.boolean), { frames := 1, cells := 0, slots := 0, locals := 22 }, false, [])
theorem mcX9_isRoom : MC yX9_isRoom mX9_isRoom 1 := ⟨inT 1079 (by decide +kernel) rfl, inT 7 (by decide +kernel) rfl, ⟨by decide +kernel, by decide +kernel⟩, by decide +kernel, by decide +kernel, rfl, rfl, fun z => nomatch z⟩
abbrev mX9_hall : MI := (RX9, cX9_hall, 4, (some FieldType.int), { frames := 1, cells := 0, slots := 0, locals := 22 }, false, [])
theorem mcX9_hall : MC yX9_hall mX9_hall 2 := ⟨inT 962 (by decide +kernel) rfl, inT 7 (by decide +kernel) rfl, ⟨by decide +kernel, by decide +kernel⟩, by decide +kernel, by decide +kernel, rfl, rfl, fun z => nomatch z⟩
abbrev mX9_crane : MI := (RX9, cX9_crane, 4, (some FieldType.int), { frames := 2, cells := 0, slots := 0, locals := 42 }, false, [])
theorem mcX9_crane : MC yX9_crane mX9_crane 2 := ⟨inT 973 (by decide +kernel) rfl, inT 7 (by decide +kernel) rfl, ⟨by decide +kernel, by decide +kernel⟩, by decide +kernel, by decide +kernel, rfl, rfl, fun z => nomatch z⟩
abbrev mX9_welder : MI := (RX9, cX9_welder, 4, (some FieldType.int), { frames := 2, cells := 0, slots := 0, locals := 42 }, false, [])
theorem mcX9_welder : MC yX9_welder mX9_welder 2 := ⟨inT 980 (by decide +kernel) rfl, inT 7 (by decide +kernel) rfl, ⟨by decide +kernel, by decide +kernel⟩, by decide +kernel, by decide +kernel, rfl, rfl, fun z => nomatch z⟩
abbrev mX9_draw : MI := (RX9, cX9_draw, 3, (some FieldType.int), { frames := 0, cells := 0, slots := 0, locals := 0 }, false, [])
theorem mcX9_draw : MC yX9_draw mX9_draw 1 := ⟨inT 987 (by decide +kernel) rfl, inT 7 (by decide +kernel) rfl, ⟨by decide +kernel, by decide +kernel⟩, by decide +kernel, by decide +kernel, rfl, rfl, fun z => nomatch z⟩
abbrev mX9_adds : MI := (RX9, cX9_adds, 8, (some FieldType.int), { frames := 0, cells := 0, slots := 0, locals := 0 }, false, [])
theorem mcX9_adds : MC yX9_adds mX9_adds 6 := ⟨inT 998 (by decide +kernel) rfl, inT 7 (by decide +kernel) rfl, ⟨by decide +kernel, by decide +kernel⟩, by decide +kernel, by decide +kernel, rfl, rfl, fun z => nomatch z⟩
abbrev mX9_block : MI := (RX9, cX9_block, 9, (some FieldType.int), { frames := 2, cells := 0, slots := 0, locals := 42 }, false, [])
theorem mcX9_block : MC yX9_block mX9_block 6 := ⟨inT 991 (by decide +kernel) rfl, inT 7 (by decide +kernel) rfl, ⟨by decide +kernel, by decide +kernel⟩, by decide +kernel, by decide +kernel, rfl, rfl, fun z => nomatch z⟩
abbrev mX9_draws : MI := (RX9, cX9_draws, 3, none, { frames := 0, cells := 0, slots := 0, locals := 0 }, false, [])
theorem mcX9_draws : MC yX9_draws mX9_draws 2 := ⟨inT 1018 (by decide +kernel) rfl, inT 7 (by decide +kernel) rfl, ⟨by decide +kernel, by decide +kernel⟩, by decide +kernel, by decide +kernel, rfl, rfl, fun z => nomatch z⟩
abbrev mX9_makes : MI := (RX9, cX9_makes, 6, none, { frames := 1, cells := 0, slots := 0, locals := 22 }, false, [])
theorem mcX9_makes : MC yX9_makes mX9_makes 4 := ⟨inT 1014 (by decide +kernel) rfl, inT 7 (by decide +kernel) rfl, ⟨by decide +kernel, by decide +kernel⟩, by decide +kernel, by decide +kernel, rfl, rfl, fun z => nomatch z⟩
abbrev mX9_canJoin : MI := (RX9, cX9_canJoin, 4, (some FieldType.boolean), { frames := 0, cells := 0, slots := 0, locals := 0 }, false, [])
theorem mcX9_canJoin : MC yX9_canJoin mX9_canJoin 2 := ⟨inT 1010 (by decide +kernel) rfl, inT 7 (by decide +kernel) rfl, ⟨by decide +kernel, by decide +kernel⟩, by decide +kernel, by decide +kernel, rfl, rfl, fun z => nomatch z⟩
abbrev mX9_join : MI := (RX9, cX9_join, 6, (some FieldType.int), { frames := 2, cells := 0, slots := 0, locals := 47 }, false, [])
theorem mcX9_join : MC yX9_join mX9_join 3 := ⟨inT 1002 (by decide +kernel) rfl, inT 7 (by decide +kernel) rfl, ⟨by decide +kernel, by decide +kernel⟩, by decide +kernel, by decide +kernel, rfl, rfl, fun z => nomatch z⟩
abbrev mX9_blockAt : MI := (RX9, cX9_blockAt, 3, (some FieldType.int), { frames := 2, cells := 0, slots := 0, locals := 42 }, false, [])
theorem mcX9_blockAt : MC yX9_blockAt mX9_blockAt 2 := ⟨inT 1027 (by decide +kernel) rfl, inT 7 (by decide +kernel) rfl, ⟨by decide +kernel, by decide +kernel⟩, by decide +kernel, by decide +kernel, rfl, rfl, fun z => nomatch z⟩
abbrev mX9_endOf : MI := (RX9, cX9_endOf, 2, (some FieldType.int), { frames := 0, cells := 0, slots := 0, locals := 0 }, false, [])
theorem mcX9_endOf : MC yX9_endOf mX9_endOf 1 := ⟨inT 1039 (by decide +kernel) rfl, inT 7 (by decide +kernel) rfl, ⟨by decide +kernel, by decide +kernel⟩, by decide +kernel, by decide +kernel, rfl, rfl, fun z => nomatch z⟩
abbrev mX9_space : MI := (RX9, cX9_space, 3, (some FieldType.int), { frames := 1, cells := 0, slots := 0, locals := 21 }, false, [])
theorem mcX9_space : MC yX9_space mX9_space 2 := ⟨inT 1035 (by decide +kernel) rfl, inT 7 (by decide +kernel) rfl, ⟨by decide +kernel, by decide +kernel⟩, by decide +kernel, by decide +kernel, rfl, rfl, fun z => nomatch z⟩
abbrev mX9_reason : MI := (RX9, cX9_reason, 9, (some FieldType.int), { frames := 3, cells := 0, slots := 0, locals := 64 }, false, [])
theorem mcX9_reason : MC yX9_reason mX9_reason 1 := ⟨inT 1031 (by decide +kernel) rfl, inT 7 (by decide +kernel) rfl, ⟨by decide +kernel, by decide +kernel⟩, by decide +kernel, by decide +kernel, rfl, rfl, fun z => nomatch z⟩
abbrev mX9_spoils : MI := (RX9, cX9_spoils, 3, none, { frames := 0, cells := 0, slots := 0, locals := 0 }, false, [])
theorem mcX9_spoils : MC yX9_spoils mX9_spoils 2 := ⟨inT 1043 (by decide +kernel) rfl, inT 7 (by decide +kernel) rfl, ⟨by decide +kernel, by decide +kernel⟩, by decide +kernel, by decide +kernel, rfl, rfl, fun z => nomatch z⟩
abbrev mX9_erect : MI := (RX9, cX9_erect, 9, (some FieldType.int), { frames := 4, cells := 0, slots := 0, locals := 92 }, false, [])
theorem mcX9_erect : MC yX9_erect mX9_erect 2 := ⟨inT 1023 (by decide +kernel) rfl, inT 7 (by decide +kernel) rfl, ⟨by decide +kernel, by decide +kernel⟩, by decide +kernel, by decide +kernel, rfl, rfl, fun z => nomatch z⟩
abbrev mX9_whole : MI := (RX9, cX9_whole, 3, (some FieldType.int), { frames := 0, cells := 0, slots := 0, locals := 0 }, false, [])
theorem mcX9_whole : MC yX9_whole mX9_whole 1 := ⟨inT 1051 (by decide +kernel) rfl, inT 7 (by decide +kernel) rfl, ⟨by decide +kernel, by decide +kernel⟩, by decide +kernel, by decide +kernel, rfl, rfl, fun z => nomatch z⟩
abbrev mX9_scrap : MI := (RX9, cX9_scrap, 4, (some FieldType.int), { frames := 2, cells := 0, slots := 0, locals := 43 }, false, [])
theorem mcX9_scrap : MC yX9_scrap mX9_scrap 1 := ⟨inT 1047 (by decide +kernel) rfl, inT 7 (by decide +kernel) rfl, ⟨by decide +kernel, by decide +kernel⟩, by decide +kernel, by decide +kernel, rfl, rfl, fun z => nomatch z⟩
abbrev mX9_isScrapped : MI := (RX9, cX9_isScrapped, 2, (some FieldType.boolean), { frames := 0, cells := 0, slots := 0, locals := 0 }, false, [])
theorem mcX9_isScrapped : MC yX9_isScrapped mX9_isScrapped 1 := ⟨inT 1063 (by decide +kernel) rfl, inT 7 (by decide +kernel) rfl, ⟨by decide +kernel, by decide +kernel⟩, by decide +kernel, by decide +kernel, rfl, rfl, fun z => nomatch z⟩
abbrev mX9_test : MI := (RX9, cX9_test, 2, (some FieldType.int), { frames := 2, cells := 0, slots := 0, locals := 43 }, false, [])
theorem mcX9_test : MC yX9_test mX9_test 1 := ⟨inT 1055 (by decide +kernel) rfl, inT 7 (by decide +kernel) rfl, ⟨by decide +kernel, by decide +kernel⟩, by decide +kernel, by decide +kernel, rfl, rfl, fun z => nomatch z⟩
abbrev mX9_stands : MI := (RX9, cX9_stands, 2, (some FieldType.boolean), { frames := 1, cells := 0, slots := 0, locals := 22 }, false, [])
theorem mcX9_stands : MC yX9_stands mX9_stands 1 := ⟨inT 1071 (by decide +kernel) rfl, inT 7 (by decide +kernel) rfl, ⟨by decide +kernel, by decide +kernel⟩, by decide +kernel, by decide +kernel, rfl, rfl, fun z => nomatch z⟩
abbrev mX9_repair : MI := (RX9, cX9_repair, 4, (some FieldType.int), { frames := 2, cells := 0, slots := 0, locals := 43 }, false, [])
theorem mcX9_repair : MC yX9_repair mX9_repair 2 := ⟨inT 1067 (by decide +kernel) rfl, inT 7 (by decide +kernel) rfl, ⟨by decide +kernel, by decide +kernel⟩, by decide +kernel, by decide +kernel, rfl, rfl, fun z => nomatch z⟩
abbrev mX9_hole : MI := (RX9, cX9_hole, 7, (some FieldType.int), { frames := 2, cells := 0, slots := 0, locals := 43 }, false, [])
theorem mcX9_hole : MC yX9_hole mX9_hole 2 := ⟨inT 1075 (by decide +kernel) rfl, inT 7 (by decide +kernel) rfl, ⟨by decide +kernel, by decide +kernel⟩, by decide +kernel, by decide +kernel, rfl, rfl, fun z => nomatch z⟩
abbrev mX9_paint : MI := (RX9, cX9_paint, 4, (some FieldType.int), { frames := 2, cells := 0, slots := 0, locals := 43 }, false, [])
theorem mcX9_paint : MC yX9_paint mX9_paint 1 := ⟨inT 1083 (by decide +kernel) rfl, inT 7 (by decide +kernel) rfl, ⟨by decide +kernel, by decide +kernel⟩, by decide +kernel, by decide +kernel, rfl, rfl, fun z => nomatch z⟩
abbrev mX9_fit : MI := (RX9, cX9_fit, 5, (some FieldType.int), { frames := 2, cells := 0, slots := 0, locals := 43 }, false, [])
theorem mcX9_fit : MC yX9_fit mX9_fit 2 := ⟨inT 1087 (by decide +kernel) rfl, inT 7 (by decide +kernel) rfl, ⟨by decide +kernel, by decide +kernel⟩, by decide +kernel, by decide +kernel, rfl, rfl, fun z => nomatch z⟩
abbrev mX9_beyond : MI := (RX9, cX9_beyond, 3, (some FieldType.int), { frames := 0, cells := 0, slots := 0, locals := 0 }, false, [])
theorem mcX9_beyond : MC yX9_beyond mX9_beyond 2 := ⟨inT 1099 (by decide +kernel) rfl, inT 7 (by decide +kernel) rfl, ⟨by decide +kernel, by decide +kernel⟩, by decide +kernel, by decide +kernel, rfl, rfl, fun z => nomatch z⟩
abbrev mX9_ways : MI := (RX9, cX9_ways, 6, none, { frames := 1, cells := 0, slots := 0, locals := 22 }, false, [])
theorem mcX9_ways : MC yX9_ways mX9_ways 1 := ⟨inT 1095 (by decide +kernel) rfl, inT 7 (by decide +kernel) rfl, ⟨by decide +kernel, by decide +kernel⟩, by decide +kernel, by decide +kernel, rfl, rfl, fun z => nomatch z⟩
abbrev mX9_nearer : MI := (RX9, cX9_nearer, 6, (some FieldType.int), { frames := 1, cells := 0, slots := 0, locals := 22 }, false, [])
theorem mcX9_nearer : MC yX9_nearer mX9_nearer 1 := ⟨inT 1103 (by decide +kernel) rfl, inT 7 (by decide +kernel) rfl, ⟨by decide +kernel, by decide +kernel⟩, by decide +kernel, by decide +kernel, rfl, rfl, fun z => nomatch z⟩
abbrev mX9_pipe : MI := (RX9, cX9_pipe, 7, (some FieldType.int), { frames := 2, cells := 0, slots := 0, locals := 47 }, false, [])
theorem mcX9_pipe : MC yX9_pipe mX9_pipe 2 := ⟨inT 1091 (by decide +kernel) rfl, inT 7 (by decide +kernel) rfl, ⟨by decide +kernel, by decide +kernel⟩, by decide +kernel, by decide +kernel, rfl, rfl, fun z => nomatch z⟩
abbrev mX9_tonsOf : MI := (RX9, cX9_tonsOf, 3, (some FieldType.int), { frames := 0, cells := 0, slots := 0, locals := 0 }, false, [])
theorem mcX9_tonsOf : MC yX9_tonsOf mX9_tonsOf 0 := ⟨inT 1127 (by decide +kernel) rfl, inT 7 (by decide +kernel) rfl, ⟨by decide +kernel, by decide +kernel⟩, by decide +kernel, by decide +kernel, rfl, rfl, fun z => nomatch z⟩
abbrev mX9_centreOf : MI := (RX9, cX9_centreOf, 3, (some FieldType.int), { frames := 1, cells := 0, slots := 0, locals := 22 }, false, [])
theorem mcX9_centreOf : MC yX9_centreOf mX9_centreOf 0 := ⟨inT 1131 (by decide +kernel) rfl, inT 7 (by decide +kernel) rfl, ⟨by decide +kernel, by decide +kernel⟩, by decide +kernel, by decide +kernel, rfl, rfl, fun z => nomatch z⟩
abbrev mX9_draughtOf : MI := (RX9, cX9_draughtOf, 4, (some FieldType.int), { frames := 2, cells := 0, slots := 0, locals := 44 }, false, [])
theorem mcX9_draughtOf : MC yX9_draughtOf mX9_draughtOf 1 := ⟨inT 1123 (by decide +kernel) rfl, inT 7 (by decide +kernel) rfl, ⟨by decide +kernel, by decide +kernel⟩, by decide +kernel, by decide +kernel, rfl, rfl, fun z => nomatch z⟩
abbrev mX9_greater : MI := (RX9, cX9_greater, 3, (some FieldType.int), { frames := 3, cells := 0, slots := 0, locals := 67 }, false, [])
theorem mcX9_greater : MC yX9_greater mX9_greater 0 := ⟨inT 1119 (by decide +kernel) rfl, inT 7 (by decide +kernel) rfl, ⟨by decide +kernel, by decide +kernel⟩, by decide +kernel, by decide +kernel, rfl, rfl, fun z => nomatch z⟩
abbrev mX9_waterIn : MI := (RX9, cX9_waterIn, 2, (some FieldType.int), { frames := 0, cells := 0, slots := 0, locals := 0 }, false, [])
theorem mcX9_waterIn : MC yX9_waterIn mX9_waterIn 1 := ⟨inT 1134 (by decide +kernel) rfl, inT 7 (by decide +kernel) rfl, ⟨by decide +kernel, by decide +kernel⟩, by decide +kernel, by decide +kernel, rfl, rfl, fun z => nomatch z⟩
abbrev mX9_isWhole : MI := (RX9, cX9_isWhole, 3, (some FieldType.boolean), { frames := 2, cells := 0, slots := 0, locals := 43 }, false, [])
theorem mcX9_isWhole : MC yX9_isWhole mX9_isWhole 0 := ⟨inT 1115 (by decide +kernel) rfl, inT 7 (by decide +kernel) rfl, ⟨by decide +kernel, by decide +kernel⟩, by decide +kernel, by decide +kernel, rfl, rfl, fun z => nomatch z⟩
abbrev mX9_canLaunch : MI := (RX9, cX9_canLaunch, 2, (some FieldType.boolean), { frames := 4, cells := 0, slots := 0, locals := 89 }, false, [])
theorem mcX9_canLaunch : MC yX9_canLaunch mX9_canLaunch 1 := ⟨inT 1111 (by decide +kernel) rfl, inT 7 (by decide +kernel) rfl, ⟨by decide +kernel, by decide +kernel⟩, by decide +kernel, by decide +kernel, rfl, rfl, fun z => nomatch z⟩
abbrev mX9_launch : MI := (RX9, cX9_launch, 2, (some FieldType.int), { frames := 5, cells := 0, slots := 0, locals := 110 }, false, [])
theorem mcX9_launch : MC yX9_launch mX9_launch 1 := ⟨inT 1107 (by decide +kernel) rfl, inT 7 (by decide +kernel) rfl, ⟨by decide +kernel, by decide +kernel⟩, by decide +kernel, by decide +kernel, rfl, rfl, fun z => nomatch z⟩
abbrev mX9_tells : MI := (RX9, cX9_tells, 2, (some FieldType.int), { frames := 0, cells := 0, slots := 0, locals := 0 }, false, [])
theorem mcX9_tells : MC yX9_tells mX9_tells 1 := ⟨inT 1142 (by decide +kernel) rfl, inT 7 (by decide +kernel) rfl, ⟨by decide +kernel, by decide +kernel⟩, by decide +kernel, by decide +kernel, rfl, rfl, fun z => nomatch z⟩
abbrev mX9_blocks : MI := (RX9, cX9_blocks, 1, (some FieldType.int), { frames := 1, cells := 0, slots := 0, locals := 21 }, false, [])
theorem mcX9_blocks : MC yX9_blocks mX9_blocks 0 := ⟨inT 1138 (by decide +kernel) rfl, inT 7 (by decide +kernel) rfl, ⟨by decide +kernel, by decide +kernel⟩, by decide +kernel, by decide +kernel, rfl, rfl, fun z => nomatch z⟩
abbrev mX9_welds : MI := (RX9, cX9_welds, 1, (some FieldType.int), { frames := 1, cells := 0, slots := 0, locals := 21 }, false, [])
theorem mcX9_welds : MC yX9_welds mX9_welds 0 := ⟨inT 1146 (by decide +kernel) rfl, inT 7 (by decide +kernel) rfl, ⟨by decide +kernel, by decide +kernel⟩, by decide +kernel, by decide +kernel, rfl, rfl, fun z => nomatch z⟩
abbrev mX9_isAfloat : MI := (RX9, cX9_isAfloat, 1, (some FieldType.boolean), { frames := 0, cells := 0, slots := 0, locals := 0 }, false, [])
theorem mcX9_isAfloat : MC yX9_isAfloat mX9_isAfloat 0 := ⟨inT 1150 (by decide +kernel) rfl, inT 7 (by decide +kernel) rfl, ⟨by decide +kernel, by decide +kernel⟩, by decide +kernel, by decide +kernel, rfl, rfl, fun z => nomatch z⟩
abbrev mX9_whyNot : MI := (RX9, cX9_whyNot, 2, (some FieldType.int), { frames := 4, cells := 0, slots := 0, locals := 92 }, false, [])
theorem mcX9_whyNot : MC yX9_whyNot mX9_whyNot 1 := ⟨inT 1154 (by decide +kernel) rfl, inT 7 (by decide +kernel) rfl, ⟨by decide +kernel, by decide +kernel⟩, by decide +kernel, by decide +kernel, rfl, rfl, fun z => nomatch z⟩
abbrev mX9_told : MI := (RX9, cX9_told, 3, (some FieldType.int), { frames := 2, cells := 0, slots := 0, locals := 43 }, false, [])
theorem mcX9_told : MC yX9_told mX9_told 2 := ⟨inT 1158 (by decide +kernel) rfl, inT 7 (by decide +kernel) rfl, ⟨by decide +kernel, by decide +kernel⟩, by decide +kernel, by decide +kernel, rfl, rfl, fun z => nomatch z⟩
abbrev mX9_weld : MI := (RX9, cX9_weld, 3, (some FieldType.int), { frames := 2, cells := 0, slots := 0, locals := 43 }, false, [])
theorem mcX9_weld : MC yX9_weld mX9_weld 2 := ⟨inT 1162 (by decide +kernel) rfl, inT 7 (by decide +kernel) rfl, ⟨by decide +kernel, by decide +kernel⟩, by decide +kernel, by decide +kernel, rfl, rfl, fun z => nomatch z⟩
abbrev mX9_cell : MI := (RX9, cX9_cell, 3, (some FieldType.int), { frames := 1, cells := 0, slots := 0, locals := 22 }, false, [])
theorem mcX9_cell : MC yX9_cell mX9_cell 2 := ⟨inT 1166 (by decide +kernel) rfl, inT 7 (by decide +kernel) rfl, ⟨by decide +kernel, by decide +kernel⟩, by decide +kernel, by decide +kernel, rfl, rfl, fun z => nomatch z⟩
abbrev mX9_roomAt : MI := (RX9, cX9_roomAt, 3, (some FieldType.int), { frames := 1, cells := 0, slots := 0, locals := 22 }, false, [])
theorem mcX9_roomAt : MC yX9_roomAt mX9_roomAt 2 := ⟨inT 1170 (by decide +kernel) rfl, inT 7 (by decide +kernel) rfl, ⟨by decide +kernel, by decide +kernel⟩, by decide +kernel, by decide +kernel, rfl, rfl, fun z => nomatch z⟩
abbrev mX9_tons : MI := (RX9, cX9_tons, 1, (some FieldType.int), { frames := 1, cells := 0, slots := 0, locals := 22 }, false, [])
theorem mcX9_tons : MC yX9_tons mX9_tons 0 := ⟨inT 1174 (by decide +kernel) rfl, inT 7 (by decide +kernel) rfl, ⟨by decide +kernel, by decide +kernel⟩, by decide +kernel, by decide +kernel, rfl, rfl, fun z => nomatch z⟩
abbrev mX9_tonsAnew : MI := (RX9, cX9_tonsAnew, 1, (some FieldType.int), { frames := 1, cells := 0, slots := 0, locals := 22 }, false, [])
theorem mcX9_tonsAnew : MC yX9_tonsAnew mX9_tonsAnew 0 := ⟨inT 1178 (by decide +kernel) rfl, inT 7 (by decide +kernel) rfl, ⟨by decide +kernel, by decide +kernel⟩, by decide +kernel, by decide +kernel, rfl, rfl, fun z => nomatch z⟩
abbrev mX9_centre : MI := (RX9, cX9_centre, 1, (some FieldType.int), { frames := 2, cells := 0, slots := 0, locals := 44 }, false, [])
theorem mcX9_centre : MC yX9_centre mX9_centre 0 := ⟨inT 1182 (by decide +kernel) rfl, inT 7 (by decide +kernel) rfl, ⟨by decide +kernel, by decide +kernel⟩, by decide +kernel, by decide +kernel, rfl, rfl, fun z => nomatch z⟩
abbrev mX9_draught : MI := (RX9, cX9_draught, 2, (some FieldType.int), { frames := 3, cells := 0, slots := 0, locals := 67 }, false, [])
theorem mcX9_draught : MC yX9_draught mX9_draught 1 := ⟨inT 1186 (by decide +kernel) rfl, inT 7 (by decide +kernel) rfl, ⟨by decide +kernel, by decide +kernel⟩, by decide +kernel, by decide +kernel, rfl, rfl, fun z => nomatch z⟩
abbrev mX9_water : MI := (RX9, cX9_water, 2, (some FieldType.int), { frames := 1, cells := 0, slots := 0, locals := 22 }, false, [])
theorem mcX9_water : MC yX9_water mX9_water 1 := ⟨inT 1190 (by decide +kernel) rfl, inT 7 (by decide +kernel) rfl, ⟨by decide +kernel, by decide +kernel⟩, by decide +kernel, by decide +kernel, rfl, rfl, fun z => nomatch z⟩
abbrev mX9_firstHour : MI := (RX9, cX9_firstHour, 3, (some FieldType.int), { frames := 5, cells := 0, slots := 0, locals := 110 }, false, [])
theorem mcX9_firstHour : MC yX9_firstHour mX9_firstHour 0 := ⟨inT 1194 (by decide +kernel) rfl, inT 7 (by decide +kernel) rfl, ⟨by decide +kernel, by decide +kernel⟩, by decide +kernel, by decide +kernel, rfl, rfl, fun z => nomatch z⟩
abbrev mX9_money : MI := (RX9, cX9_money, 1, (some FieldType.int), { frames := 1, cells := 0, slots := 0, locals := 21 }, false, [])
theorem mcX9_money : MC yX9_money mX9_money 0 := ⟨inT 1198 (by decide +kernel) rfl, inT 7 (by decide +kernel) rfl, ⟨by decide +kernel, by decide +kernel⟩, by decide +kernel, by decide +kernel, rfl, rfl, fun z => nomatch z⟩
abbrev mX9_moneyAnew : MI := (RX9, cX9_moneyAnew, 1, (some FieldType.int), { frames := 1, cells := 0, slots := 0, locals := 21 }, false, [])
theorem mcX9_moneyAnew : MC yX9_moneyAnew mX9_moneyAnew 0 := ⟨inT 1202 (by decide +kernel) rfl, inT 7 (by decide +kernel) rfl, ⟨by decide +kernel, by decide +kernel⟩, by decide +kernel, by decide +kernel, rfl, rfl, fun z => nomatch z⟩
abbrev mJ9_abs_0f7a4 : MI := (RJ9, cJ9_abs_0f7a4, 1, (some FieldType.int), { frames := 0, cells := 0, slots := 0, locals := 0 }, false, [])
abbrev mJ9_max_7cf53 : MI := (RJ9, cJ9_max_7cf53, 2, (some FieldType.int), { frames := 0, cells := 0, slots := 0, locals := 0 }, false, [])
abbrev mJ9_min_7cf53 : MI := (RJ9, cJ9_min_7cf53, 2, (some FieldType.int), { frames := 0, cells := 0, slots := 0, locals := 0 }, false, [])
abbrev mJ7_fill_53178 : MI := (RJ7, cJ7_fill_53178, 4, none, { frames := 0, cells := 0, slots := 0, locals := 0 }, false, [])
theorem mcJ7_fill_53178 : MC yJ7_fill_53178 mJ7_fill_53178 2 := ⟨inT 71 (by decide +kernel) rfl, inT 5 (by decide +kernel) rfl, ⟨by decide +kernel, by decide +kernel⟩, by decide +kernel, by decide +kernel, rfl, rfl, fun z => nomatch z⟩
abbrev mL_hall : MI := (RL, cL_hall, 5, (some FieldType.int), { frames := 7, cells := 1, slots := 6, locals := 113 }, false, [((0 : Nat), (10 : Nat), (13 : Nat), (13 : Nat))])
theorem mcL_hall : MCh yL_hall mL_hall 4 := ⟨inT 250 (by decide +kernel) rfl, inT 0 (by decide +kernel) rfl, ⟨by decide +kernel, by decide +kernel⟩, by decide +kernel, by decide +kernel, rfl, fun z => nomatch z⟩
abbrev mL_crane : MI := (RL, cL_crane, 5, (some FieldType.int), { frames := 7, cells := 1, slots := 6, locals := 113 }, false, [((0 : Nat), (10 : Nat), (13 : Nat), (18 : Nat)), ((0 : Nat), (10 : Nat), (17 : Nat), (13 : Nat))])
theorem mcL_crane : MCh yL_crane mL_crane 4 := ⟨inT 329 (by decide +kernel) rfl, inT 0 (by decide +kernel) rfl, ⟨by decide +kernel, by decide +kernel⟩, by decide +kernel, by decide +kernel, rfl, fun z => nomatch z⟩
abbrev mL_welder : MI := (RL, cL_welder, 5, (some FieldType.int), { frames := 7, cells := 1, slots := 6, locals := 113 }, false, [((0 : Nat), (10 : Nat), (13 : Nat), (18 : Nat)), ((0 : Nat), (10 : Nat), (17 : Nat), (13 : Nat))])
theorem mcL_welder : MCh yL_welder mL_welder 4 := ⟨inT 357 (by decide +kernel) rfl, inT 0 (by decide +kernel) rfl, ⟨by decide +kernel, by decide +kernel⟩, by decide +kernel, by decide +kernel, rfl, fun z => nomatch z⟩
abbrev mL_block : MI := (RL, cL_block, 9, (some FieldType.int), { frames := 7, cells := 2, slots := 16, locals := 117 }, false, [((0 : Nat), (18 : Nat), (21 : Nat), (18 : Nat)), ((0 : Nat), (18 : Nat), (25 : Nat), (13 : Nat)), ((0 : Nat), (18 : Nat), (29 : Nat), (27 : Nat))])
theorem mcL_block : MCh yL_block mL_block 8 := ⟨inT 366 (by decide +kernel) rfl, inT 0 (by decide +kernel) rfl, ⟨by decide +kernel, by decide +kernel⟩, by decide +kernel, by decide +kernel, rfl, fun z => nomatch z⟩
abbrev mL_join : MI := (RL, cL_join, 6, (some FieldType.int), { frames := 7, cells := 3, slots := 21, locals := 140 }, false, [((0 : Nat), (12 : Nat), (15 : Nat), (18 : Nat)), ((0 : Nat), (12 : Nat), (19 : Nat), (27 : Nat))])
theorem mcL_join : MCh yL_join mL_join 5 := ⟨inT 453 (by decide +kernel) rfl, inT 0 (by decide +kernel) rfl, ⟨by decide +kernel, by decide +kernel⟩, by decide +kernel, by decide +kernel, rfl, fun z => nomatch z⟩
abbrev mL_erect : MI := (RL, cL_erect, 5, (some FieldType.int), { frames := 7, cells := 15, slots := 100, locals := 160 }, false, [((0 : Nat), (10 : Nat), (13 : Nat), (18 : Nat)), ((0 : Nat), (10 : Nat), (17 : Nat), (27 : Nat))])
theorem mcL_erect : MCh yL_erect mL_erect 4 := ⟨inT 547 (by decide +kernel) rfl, inT 0 (by decide +kernel) rfl, ⟨by decide +kernel, by decide +kernel⟩, by decide +kernel, by decide +kernel, rfl, fun z => nomatch z⟩
abbrev mL_scrap : MI := (RL, cL_scrap, 4, (some FieldType.int), { frames := 7, cells := 1, slots := 6, locals := 117 }, false, [((0 : Nat), (9 : Nat), (12 : Nat), (18 : Nat)), ((0 : Nat), (9 : Nat), (15 : Nat), (27 : Nat))])
theorem mcL_scrap : MCh yL_scrap mL_scrap 3 := ⟨inT 649 (by decide +kernel) rfl, inT 0 (by decide +kernel) rfl, ⟨by decide +kernel, by decide +kernel⟩, by decide +kernel, by decide +kernel, rfl, fun z => nomatch z⟩
abbrev mL_test : MI := (RL, cL_test, 4, (some FieldType.int), { frames := 7, cells := 1, slots := 6, locals := 112 }, false, [((0 : Nat), (9 : Nat), (12 : Nat), (18 : Nat)), ((0 : Nat), (9 : Nat), (15 : Nat), (27 : Nat))])
theorem mcL_test : MCh yL_test mL_test 3 := ⟨inT 659 (by decide +kernel) rfl, inT 0 (by decide +kernel) rfl, ⟨by decide +kernel, by decide +kernel⟩, by decide +kernel, by decide +kernel, rfl, fun z => nomatch z⟩
abbrev mL_repair : MI := (RL, cL_repair, 5, (some FieldType.int), { frames := 7, cells := 1, slots := 6, locals := 113 }, false, [((0 : Nat), (10 : Nat), (13 : Nat), (18 : Nat)), ((0 : Nat), (10 : Nat), (17 : Nat), (27 : Nat))])
theorem mcL_repair : MCh yL_repair mL_repair 4 := ⟨inT 676 (by decide +kernel) rfl, inT 0 (by decide +kernel) rfl, ⟨by decide +kernel, by decide +kernel⟩, by decide +kernel, by decide +kernel, rfl, fun z => nomatch z⟩
abbrev mL_hole : MI := (RL, cL_hole, 5, (some FieldType.int), { frames := 7, cells := 1, slots := 6, locals := 115 }, false, [((0 : Nat), (10 : Nat), (13 : Nat), (18 : Nat)), ((0 : Nat), (10 : Nat), (17 : Nat), (27 : Nat))])
theorem mcL_hole : MCh yL_hole mL_hole 4 := ⟨inT 685 (by decide +kernel) rfl, inT 0 (by decide +kernel) rfl, ⟨by decide +kernel, by decide +kernel⟩, by decide +kernel, by decide +kernel, rfl, fun z => nomatch z⟩
abbrev mL_paint : MI := (RL, cL_paint, 4, (some FieldType.int), { frames := 7, cells := 1, slots := 6, locals := 112 }, false, [((0 : Nat), (9 : Nat), (12 : Nat), (18 : Nat)), ((0 : Nat), (9 : Nat), (15 : Nat), (27 : Nat))])
theorem mcL_paint : MCh yL_paint mL_paint 3 := ⟨inT 700 (by decide +kernel) rfl, inT 0 (by decide +kernel) rfl, ⟨by decide +kernel, by decide +kernel⟩, by decide +kernel, by decide +kernel, rfl, fun z => nomatch z⟩
abbrev mL_fit : MI := (RL, cL_fit, 5, (some FieldType.int), { frames := 7, cells := 1, slots := 6, locals := 113 }, false, [((0 : Nat), (10 : Nat), (13 : Nat), (18 : Nat)), ((0 : Nat), (10 : Nat), (17 : Nat), (13 : Nat)), ((0 : Nat), (10 : Nat), (21 : Nat), (27 : Nat))])
theorem mcL_fit : MCh yL_fit mL_fit 4 := ⟨inT 712 (by decide +kernel) rfl, inT 0 (by decide +kernel) rfl, ⟨by decide +kernel, by decide +kernel⟩, by decide +kernel, by decide +kernel, rfl, fun z => nomatch z⟩
abbrev mL_pipe : MI := (RL, cL_pipe, 5, (some FieldType.int), { frames := 7, cells := 3, slots := 43, locals := 169 }, false, [((0 : Nat), (10 : Nat), (13 : Nat), (18 : Nat)), ((0 : Nat), (10 : Nat), (17 : Nat), (13 : Nat)), ((0 : Nat), (10 : Nat), (21 : Nat), (27 : Nat))])
theorem mcL_pipe : MCh yL_pipe mL_pipe 4 := ⟨inT 721 (by decide +kernel) rfl, inT 0 (by decide +kernel) rfl, ⟨by decide +kernel, by decide +kernel⟩, by decide +kernel, by decide +kernel, rfl, fun z => nomatch z⟩
abbrev mL_launch : MI := (RL, cL_launch, 4, (some FieldType.int), { frames := 7, cells := 1, slots := 6, locals := 112 }, false, [((0 : Nat), (9 : Nat), (12 : Nat), (13 : Nat)), ((0 : Nat), (9 : Nat), (15 : Nat), (27 : Nat))])
theorem mcL_launch : MCh yL_launch mL_launch 3 := ⟨inT 778 (by decide +kernel) rfl, inT 0 (by decide +kernel) rfl, ⟨by decide +kernel, by decide +kernel⟩, by decide +kernel, by decide +kernel, rfl, fun z => nomatch z⟩
abbrev mL_whyNot : MI := (RL, cL_whyNot, 4, (some FieldType.int), { frames := 7, cells := 1, slots := 6, locals := 155 }, false, [((0 : Nat), (9 : Nat), (12 : Nat), (18 : Nat))])
theorem mcL_whyNot : MCh yL_whyNot mL_whyNot 3 := ⟨inT 787 (by decide +kernel) rfl, inT 0 (by decide +kernel) rfl, ⟨by decide +kernel, by decide +kernel⟩, by decide +kernel, by decide +kernel, rfl, fun z => nomatch z⟩
abbrev mL_told : MI := (RL, cL_told, 5, (some FieldType.int), { frames := 7, cells := 1, slots := 6, locals := 113 }, false, [((0 : Nat), (10 : Nat), (13 : Nat), (18 : Nat)), ((0 : Nat), (10 : Nat), (17 : Nat), (13 : Nat))])
theorem mcL_told : MCh yL_told mL_told 4 := ⟨inT 794 (by decide +kernel) rfl, inT 0 (by decide +kernel) rfl, ⟨by decide +kernel, by decide +kernel⟩, by decide +kernel, by decide +kernel, rfl, fun z => nomatch z⟩
abbrev mL_weld : MI := (RL, cL_weld, 5, (some FieldType.int), { frames := 7, cells := 1, slots := 6, locals := 113 }, false, [((0 : Nat), (10 : Nat), (13 : Nat), (18 : Nat)), ((0 : Nat), (10 : Nat), (17 : Nat), (13 : Nat))])
theorem mcL_weld : MCh yL_weld mL_weld 4 := ⟨inT 806 (by decide +kernel) rfl, inT 0 (by decide +kernel) rfl, ⟨by decide +kernel, by decide +kernel⟩, by decide +kernel, by decide +kernel, rfl, fun z => nomatch z⟩
abbrev mL_cell : MI := (RL, cL_cell, 5, (some FieldType.int), { frames := 7, cells := 1, slots := 6, locals := 113 }, false, [((0 : Nat), (10 : Nat), (13 : Nat), (18 : Nat)), ((0 : Nat), (10 : Nat), (17 : Nat), (13 : Nat))])
theorem mcL_cell : MCh yL_cell mL_cell 4 := ⟨inT 817 (by decide +kernel) rfl, inT 0 (by decide +kernel) rfl, ⟨by decide +kernel, by decide +kernel⟩, by decide +kernel, by decide +kernel, rfl, fun z => nomatch z⟩
abbrev mL_roomAt : MI := (RL, cL_roomAt, 5, (some FieldType.int), { frames := 7, cells := 1, slots := 6, locals := 113 }, false, [((0 : Nat), (10 : Nat), (13 : Nat), (18 : Nat))])
theorem mcL_roomAt : MCh yL_roomAt mL_roomAt 4 := ⟨inT 829 (by decide +kernel) rfl, inT 0 (by decide +kernel) rfl, ⟨by decide +kernel, by decide +kernel⟩, by decide +kernel, by decide +kernel, rfl, fun z => nomatch z⟩
abbrev mL_water : MI := (RL, cL_water, 4, (some FieldType.int), { frames := 7, cells := 1, slots := 6, locals := 111 }, false, [((0 : Nat), (9 : Nat), (12 : Nat), (13 : Nat))])
theorem mcL_water : MCh yL_water mL_water 3 := ⟨inT 837 (by decide +kernel) rfl, inT 0 (by decide +kernel) rfl, ⟨by decide +kernel, by decide +kernel⟩, by decide +kernel, by decide +kernel, rfl, fun z => nomatch z⟩
theorem obX0_3 : Cond.methodLink RX0 3 Lib.objectInit ∈ TB := inT 398 (by decide +kernel) rfl
theorem fgX0_9 : FG RX0 9 0 0 := ⟨_, _, _, _, _, ciX0, by decide, inT 399 (by decide +kernel) rfl⟩
theorem fpX0_9 : FP RX0 9 0 0 true (.int) := ⟨_, _, _, _, _, ciX0, by decide, inT 399 (by decide +kernel) rfl, rfl, rfl, fun _ => rfl⟩
theorem fgX0_15 : FG RX0 15 0 1 := ⟨_, _, _, _, _, ciX0, by decide, inT 402 (by decide +kernel) rfl⟩
theorem fpX0_15 : FP RX0 15 0 1 true (.int) := ⟨_, _, _, _, _, ciX0, by decide, inT 402 (by decide +kernel) rfl, rfl, rfl, fun _ => rfl⟩
theorem fgX0_18 : FG RX0 18 0 2 := ⟨_, _, _, _, _, ciX0, by decide, inT 405 (by decide +kernel) rfl⟩
theorem fpX0_18 : FP RX0 18 0 2 true (.int) := ⟨_, _, _, _, _, ciX0, by decide, inT 405 (by decide +kernel) rfl, rfl, rfl, fun _ => rfl⟩
theorem fgX0_21 : FG RX0 21 0 3 := ⟨_, _, _, _, _, ciX0, by decide, inT 408 (by decide +kernel) rfl⟩
theorem fpX0_21 : FP RX0 21 0 3 true (.int) := ⟨_, _, _, _, _, ciX0, by decide, inT 408 (by decide +kernel) rfl, rfl, rfl, fun _ => rfl⟩
theorem fgX0_24 : FG RX0 24 0 4 := ⟨_, _, _, _, _, ciX0, by decide, inT 412 (by decide +kernel) rfl⟩
theorem fpX0_24 : FP RX0 24 0 4 true (.int) := ⟨_, _, _, _, _, ciX0, by decide, inT 412 (by decide +kernel) rfl, rfl, rfl, fun _ => rfl⟩
theorem fgX0_27 : FG RX0 27 0 6 := ⟨_, _, _, _, _, ciX0, by decide, inT 417 (by decide +kernel) rfl⟩
theorem fpX0_27 : FP RX0 27 0 6 false (.int) := ⟨_, _, _, _, _, ciX0, by decide, inT 417 (by decide +kernel) rfl, rfl, rfl, fun z => nomatch z⟩
theorem fgX0_30 : FG RX0 30 0 5 := ⟨_, _, _, _, _, ciX0, by decide, inT 415 (by decide +kernel) rfl⟩
theorem fpX0_30 : FP RX0 30 0 5 true (.int) := ⟨_, _, _, _, _, ciX0, by decide, inT 415 (by decide +kernel) rfl, rfl, rfl, fun _ => rfl⟩
theorem fgX0_33 : FG RX0 33 0 7 := ⟨_, _, _, _, _, ciX0, by decide, inT 419 (by decide +kernel) rfl⟩
theorem fpX0_33 : FP RX0 33 0 7 false (.int) := ⟨_, _, _, _, _, ciX0, by decide, inT 419 (by decide +kernel) rfl, rfl, rfl, fun z => nomatch z⟩
theorem fgX0_36 : FG RX0 36 0 8 := ⟨_, _, _, _, _, ciX0, by decide, inT 421 (by decide +kernel) rfl⟩
theorem fpX0_36 : FP RX0 36 0 8 false (.int) := ⟨_, _, _, _, _, ciX0, by decide, inT 421 (by decide +kernel) rfl, rfl, rfl, fun z => nomatch z⟩
theorem fgX0_39 : FG RX0 39 0 9 := ⟨_, _, _, _, _, ciX0, by decide, inT 424 (by decide +kernel) rfl⟩
theorem fpX0_39 : FP RX0 39 0 9 false (.object "Stowfinish$Block") := ⟨_, _, _, _, _, ciX0, by decide, inT 424 (by decide +kernel) rfl, rfl, rfl, fun z => nomatch z⟩
theorem lkX0_43 : LkV RX0 43 yX0_frames := ⟨inT 181 (by decide +kernel) rfl, inT 182 (by decide +kernel) rfl, inT 183 (by decide +kernel) rfl⟩
theorem obX1_3 : Cond.methodLink RX1 3 Lib.objectInit ∈ TB := inT 38 (by decide +kernel) rfl
theorem naX1_9 : Cond.classLink RX1 9 RX4 ∈ TB := inT 39 (by decide +kernel) rfl
theorem fgX1_11 : FG RX1 11 1 0 := ⟨_, _, _, _, _, ciX1, by decide, inT 41 (by decide +kernel) rfl⟩
theorem fpX1_11 : FP RX1 11 1 0 true (.array (.object "Stowfinish$Room")) := ⟨_, _, _, _, _, ciX1, by decide, inT 41 (by decide +kernel) rfl, rfl, rfl, fun _ => rfl⟩
theorem fgX1_17 : FG RX1 17 1 1 := ⟨_, _, _, _, _, ciX1, by decide, inT 43 (by decide +kernel) rfl⟩
theorem fpX1_17 : FP RX1 17 1 1 false (.int) := ⟨_, _, _, _, _, ciX1, by decide, inT 43 (by decide +kernel) rfl, rfl, rfl, fun z => nomatch z⟩
theorem fgX1_21 : FG RX1 21 1 2 := ⟨_, _, _, _, _, ciX1, by decide, inT 45 (by decide +kernel) rfl⟩
theorem fpX1_21 : FP RX1 21 1 2 false (.int) := ⟨_, _, _, _, _, ciX1, by decide, inT 45 (by decide +kernel) rfl, rfl, rfl, fun z => nomatch z⟩
theorem lkX1_24 : LkN RX1 24 yX8_cellOf := ⟨by decide +kernel, inT 531 (by decide +kernel) rfl⟩
theorem lkX1_28 : LkV RX1 28 yX1_roomOf := ⟨inT 533 (by decide +kernel) rfl, inT 534 (by decide +kernel) rfl, inT 535 (by decide +kernel) rfl⟩
theorem lkX1_32 : LkV RX1 32 yX1_roomOn := ⟨inT 560 (by decide +kernel) rfl, inT 527 (by decide +kernel) rfl, inT 528 (by decide +kernel) rfl⟩
theorem fgX1_36 : FG RX1 36 4 1 := ⟨_, _, _, _, _, ciX4, by decide, inT 612 (by decide +kernel) rfl⟩
theorem fgX1_40 : FG RX1 40 0 1 := ⟨_, _, _, _, _, ciX0, by decide, inT 403 (by decide +kernel) rfl⟩
theorem fgX1_45 : FG RX1 45 0 2 := ⟨_, _, _, _, _, ciX0, by decide, inT 406 (by decide +kernel) rfl⟩
theorem fgX1_48 : FG RX1 48 0 3 := ⟨_, _, _, _, _, ciX0, by decide, inT 410 (by decide +kernel) rfl⟩
theorem nwX1_9 : Cond.classLink RX1 9 RX4 ∈ TB := inT 39 (by decide +kernel) rfl
theorem lkX1_51 : LkI RX1 51 yX4_init := ⟨inT 605 (by decide +kernel) rfl, inT 606 (by decide +kernel) rfl, rfl⟩
theorem fgX1_54 : FG RX1 54 0 4 := ⟨_, _, _, _, _, ciX0, by decide, inT 413 (by decide +kernel) rfl⟩
theorem lkX1_55 : LkV RX1 55 yX1_load := ⟨inT 643 (by decide +kernel) rfl, inT 644 (by decide +kernel) rfl, inT 645 (by decide +kernel) rfl⟩
theorem fgX1_59 : FG RX1 59 4 2 := ⟨_, _, _, _, _, ciX4, by decide, inT 615 (by decide +kernel) rfl⟩
theorem lkX1_63 : LkV RX1 63 yX4_frame := ⟨inT 173 (by decide +kernel) rfl, inT 174 (by decide +kernel) rfl, inT 175 (by decide +kernel) rfl⟩
theorem lkX1_67 : LkV RX1 67 yX0_tonsAt := ⟨inT 177 (by decide +kernel) rfl, inT 178 (by decide +kernel) rfl, inT 179 (by decide +kernel) rfl⟩
theorem fgX1_71 : FG RX1 71 4 3 := ⟨_, _, _, _, _, ciX4, by decide, inT 618 (by decide +kernel) rfl⟩
theorem fgX1_74 : FG RX1 74 4 4 := ⟨_, _, _, _, _, ciX4, by decide, inT 621 (by decide +kernel) rfl⟩
theorem lkX1_77 : LkV RX1 77 yX1_balance := ⟨inT 201 (by decide +kernel) rfl, inT 190 (by decide +kernel) rfl, inT 191 (by decide +kernel) rfl⟩
theorem lkX1_80 : LkV RX1 80 yX1_depth := ⟨inT 226 (by decide +kernel) rfl, inT 198 (by decide +kernel) rfl, inT 199 (by decide +kernel) rfl⟩
theorem maX1_84 : Cond.methodLink RX1 84 Lib.Math.max.name ∈ TB := inT 227 (by decide +kernel) rfl
theorem obX2_3 : Cond.methodLink RX2 3 Lib.objectInit ∈ TB := inT 87 (by decide +kernel) rfl
theorem fgX2_9 : FG RX2 9 2 0 := ⟨_, _, _, _, _, ciX2, by decide, inT 88 (by decide +kernel) rfl⟩
theorem fpX2_9 : FP RX2 9 2 0 true (.array .int) := ⟨_, _, _, _, _, ciX2, by decide, inT 88 (by decide +kernel) rfl, rfl, rfl, fun _ => rfl⟩
theorem fgX2_15 : FG RX2 15 2 1 := ⟨_, _, _, _, _, ciX2, by decide, inT 89 (by decide +kernel) rfl⟩
theorem fpX2_15 : FP RX2 15 2 1 false (.int) := ⟨_, _, _, _, _, ciX2, by decide, inT 89 (by decide +kernel) rfl, rfl, rfl, fun z => nomatch z⟩
theorem fgX2_19 : FG RX2 19 2 2 := ⟨_, _, _, _, _, ciX2, by decide, inT 90 (by decide +kernel) rfl⟩
theorem fpX2_19 : FP RX2 19 2 2 false (.int) := ⟨_, _, _, _, _, ciX2, by decide, inT 90 (by decide +kernel) rfl, rfl, rfl, fun z => nomatch z⟩
theorem obX3_1 : Cond.methodLink RX3 1 Lib.objectInit ∈ TB := inT 766 (by decide +kernel) rfl
theorem fgX3_7 : FG RX3 7 3 0 := ⟨_, _, _, _, _, ciX3, by decide, inT 767 (by decide +kernel) rfl⟩
theorem fpX3_7 : FP RX3 7 3 0 true (.array .int) := ⟨_, _, _, _, _, ciX3, by decide, inT 767 (by decide +kernel) rfl, rfl, rfl, fun _ => rfl⟩
theorem obX4_3 : Cond.methodLink RX4 3 Lib.objectInit ∈ TB := inT 608 (by decide +kernel) rfl
theorem fgX4_9 : FG RX4 9 4 0 := ⟨_, _, _, _, _, ciX4, by decide, inT 609 (by decide +kernel) rfl⟩
theorem fpX4_9 : FP RX4 9 4 0 true (.int) := ⟨_, _, _, _, _, ciX4, by decide, inT 609 (by decide +kernel) rfl, rfl, rfl, fun _ => rfl⟩
theorem fgX4_15 : FG RX4 15 4 1 := ⟨_, _, _, _, _, ciX4, by decide, inT 611 (by decide +kernel) rfl⟩
theorem fpX4_15 : FP RX4 15 4 1 true (.object "Stowfinish$Block") := ⟨_, _, _, _, _, ciX4, by decide, inT 611 (by decide +kernel) rfl, rfl, rfl, fun _ => rfl⟩
theorem fgX4_19 : FG RX4 19 4 2 := ⟨_, _, _, _, _, ciX4, by decide, inT 614 (by decide +kernel) rfl⟩
theorem fpX4_19 : FP RX4 19 4 2 false (.boolean) := ⟨_, _, _, _, _, ciX4, by decide, inT 614 (by decide +kernel) rfl, rfl, rfl, fun z => nomatch z⟩
theorem fgX4_23 : FG RX4 23 4 3 := ⟨_, _, _, _, _, ciX4, by decide, inT 617 (by decide +kernel) rfl⟩
theorem fpX4_23 : FP RX4 23 4 3 false (.int) := ⟨_, _, _, _, _, ciX4, by decide, inT 617 (by decide +kernel) rfl, rfl, rfl, fun z => nomatch z⟩
theorem fgX4_26 : FG RX4 26 4 4 := ⟨_, _, _, _, _, ciX4, by decide, inT 620 (by decide +kernel) rfl⟩
theorem fpX4_26 : FP RX4 26 4 4 false (.int) := ⟨_, _, _, _, _, ciX4, by decide, inT 620 (by decide +kernel) rfl, rfl, rfl, fun z => nomatch z⟩
theorem fgX4_29 : FG RX4 29 4 5 := ⟨_, _, _, _, _, ciX4, by decide, inT 623 (by decide +kernel) rfl⟩
theorem fpX4_29 : FP RX4 29 4 5 false (.int) := ⟨_, _, _, _, _, ciX4, by decide, inT 623 (by decide +kernel) rfl, rfl, rfl, fun z => nomatch z⟩
theorem fgX4_32 : FG RX4 32 4 6 := ⟨_, _, _, _, _, ciX4, by decide, inT 626 (by decide +kernel) rfl⟩
theorem fpX4_32 : FP RX4 32 4 6 false (.int) := ⟨_, _, _, _, _, ciX4, by decide, inT 626 (by decide +kernel) rfl, rfl, rfl, fun z => nomatch z⟩
theorem fgX4_35 : FG RX4 35 0 0 := ⟨_, _, _, _, _, ciX0, by decide, inT 400 (by decide +kernel) rfl⟩
theorem obX5_3 : Cond.methodLink RX5 3 Lib.objectInit ∈ TB := inT 58 (by decide +kernel) rfl
theorem fgX5_9 : FG RX5 9 5 0 := ⟨_, _, _, _, _, ciX5, by decide, inT 59 (by decide +kernel) rfl⟩
theorem fpX5_9 : FP RX5 9 5 0 true (.object "Stowfinish$Hull") := ⟨_, _, _, _, _, ciX5, by decide, inT 59 (by decide +kernel) rfl, rfl, rfl, fun _ => rfl⟩
theorem lkX5_15 : LkV RX5 15 yX5_measure := ⟨inT 732 (by decide +kernel) rfl, inT 734 (by decide +kernel) rfl, inS 19 (by decide +kernel) rfl⟩
theorem fgX5_19 : FG RX5 19 4 6 := ⟨_, _, _, _, _, ciX4, by decide, inT 627 (by decide +kernel) rfl⟩
theorem fgX5_25 : FG RX5 25 4 0 := ⟨_, _, _, _, _, ciX4, by decide, inT 610 (by decide +kernel) rfl⟩
theorem lkX5_28 : LkV RX5 28 yX5_lowestNearer := ⟨inT 757 (by decide +kernel) rfl, inT 759 (by decide +kernel) rfl, inS 23 (by decide +kernel) rfl⟩
theorem fgX5_32 : FG RX5 32 1 0 := ⟨_, _, _, _, _, ciX1, by decide, inT 42 (by decide +kernel) rfl⟩
theorem fpX5_19 : FP RX5 19 4 6 false (.int) := ⟨_, _, _, _, _, ciX4, by decide, inT 627 (by decide +kernel) rfl, rfl, rfl, fun z => nomatch z⟩
theorem lkX5_38 : LkV RX5 38 yX4_hasAllPipes := ⟨inT 736 (by decide +kernel) rfl, inT 737 (by decide +kernel) rfl, inT 738 (by decide +kernel) rfl⟩
theorem lkX5_42 : LkV RX5 42 yX5_spreadAll := ⟨inT 740 (by decide +kernel) rfl, inT 742 (by decide +kernel) rfl, inS 20 (by decide +kernel) rfl⟩
theorem lkX5_46 : LkV RX5 46 yX5_spread := ⟨inT 744 (by decide +kernel) rfl, inT 746 (by decide +kernel) rfl, inS 21 (by decide +kernel) rfl⟩
theorem lkX5_54 : LkV RX5 54 yX5_through := ⟨inT 750 (by decide +kernel) rfl, inT 752 (by decide +kernel) rfl, inS 22 (by decide +kernel) rfl⟩
theorem fgX5_61 : FG RX5 61 4 5 := ⟨_, _, _, _, _, ciX4, by decide, inT 624 (by decide +kernel) rfl⟩
theorem lkX5_64 : LkV RX5 64 yX1_roomOf := ⟨inT 756 (by decide +kernel) rfl, inT 534 (by decide +kernel) rfl, inT 535 (by decide +kernel) rfl⟩
theorem obX6_3 : Cond.methodLink RX6 3 Lib.objectInit ∈ TB := inT 491 (by decide +kernel) rfl
theorem fgX6_9 : FG RX6 9 6 0 := ⟨_, _, _, _, _, ciX6, by decide, inT 492 (by decide +kernel) rfl⟩
theorem fpX6_9 : FP RX6 9 6 0 true (.object "Stowfinish$Block") := ⟨_, _, _, _, _, ciX6, by decide, inT 492 (by decide +kernel) rfl, rfl, rfl, fun _ => rfl⟩
theorem fgX6_15 : FG RX6 15 6 1 := ⟨_, _, _, _, _, ciX6, by decide, inT 494 (by decide +kernel) rfl⟩
theorem fpX6_15 : FP RX6 15 6 1 true (.int) := ⟨_, _, _, _, _, ciX6, by decide, inT 494 (by decide +kernel) rfl, rfl, rfl, fun _ => rfl⟩
theorem fgX6_19 : FG RX6 19 6 2 := ⟨_, _, _, _, _, ciX6, by decide, inT 496 (by decide +kernel) rfl⟩
theorem fpX6_19 : FP RX6 19 6 2 false (.int) := ⟨_, _, _, _, _, ciX6, by decide, inT 496 (by decide +kernel) rfl, rfl, rfl, fun z => nomatch z⟩
theorem fgX6_22 : FG RX6 22 6 3 := ⟨_, _, _, _, _, ciX6, by decide, inT 498 (by decide +kernel) rfl⟩
theorem fpX6_22 : FP RX6 22 6 3 false (.int) := ⟨_, _, _, _, _, ciX6, by decide, inT 498 (by decide +kernel) rfl, rfl, rfl, fun z => nomatch z⟩
theorem fgX6_25 : FG RX6 25 6 4 := ⟨_, _, _, _, _, ciX6, by decide, inT 500 (by decide +kernel) rfl⟩
theorem fpX6_25 : FP RX6 25 6 4 false (.boolean) := ⟨_, _, _, _, _, ciX6, by decide, inT 500 (by decide +kernel) rfl, rfl, rfl, fun z => nomatch z⟩
theorem lkX6_29 : LkV RX6 29 yX0_outermost := ⟨inT 218 (by decide +kernel) rfl, inT 219 (by decide +kernel) rfl, inT 220 (by decide +kernel) rfl⟩
theorem fgX6_35 : FG RX6 35 0 8 := ⟨_, _, _, _, _, ciX0, by decide, inT 422 (by decide +kernel) rfl⟩
theorem fgX6_38 : FG RX6 38 0 3 := ⟨_, _, _, _, _, ciX0, by decide, inT 409 (by decide +kernel) rfl⟩
theorem obX7_3 : Cond.methodLink RX7 3 Lib.objectInit ∈ TB := inT 68 (by decide +kernel) rfl
theorem fgX7_9 : FG RX7 9 7 0 := ⟨_, _, _, _, _, ciX7, by decide, inT 72 (by decide +kernel) rfl⟩
theorem fpX7_9 : FP RX7 9 7 0 true (.array .int) := ⟨_, _, _, _, _, ciX7, by decide, inT 72 (by decide +kernel) rfl, rfl, rfl, fun _ => rfl⟩
theorem lkX7_15 : LkS RX7 15 yJ7_fill_53178 := ⟨inT 69 (by decide +kernel) rfl, inT 70 (by decide +kernel) rfl⟩
theorem fgX7_21 : FG RX7 21 7 1 := ⟨_, _, _, _, _, ciX7, by decide, inT 74 (by decide +kernel) rfl⟩
theorem fpX7_21 : FP RX7 21 7 1 false (.int) := ⟨_, _, _, _, _, ciX7, by decide, inT 74 (by decide +kernel) rfl, rfl, rfl, fun z => nomatch z⟩
theorem lcX7_25 : Cond.constant RX7 25 1103515245 ∈ TB := inT 521 (by decide +kernel) rfl
theorem obX8_3 : Cond.methodLink RX8 3 Lib.objectInit ∈ TB := inT 24 (by decide +kernel) rfl
theorem naX8_9 : Cond.classLink RX8 9 RX0 ∈ TB := inT 27 (by decide +kernel) rfl
theorem fgX8_11 : FG RX8 11 8 0 := ⟨_, _, _, _, _, ciX8, by decide, inT 99 (by decide +kernel) rfl⟩
theorem fpX8_11 : FP RX8 11 8 0 true (.array (.object "Stowfinish$Block")) := ⟨_, _, _, _, _, ciX8, by decide, inT 99 (by decide +kernel) rfl, rfl, rfl, fun _ => rfl⟩
theorem naX8_15 : Cond.classLink RX8 15 RX6 ∈ TB := inT 29 (by decide +kernel) rfl
theorem fgX8_17 : FG RX8 17 8 1 := ⟨_, _, _, _, _, ciX8, by decide, inT 100 (by decide +kernel) rfl⟩
theorem fpX8_17 : FP RX8 17 8 1 true (.array (.object "Stowfinish$Weld")) := ⟨_, _, _, _, _, ciX8, by decide, inT 100 (by decide +kernel) rfl, rfl, rfl, fun _ => rfl⟩
theorem naX8_21 : Cond.classLink RX8 21 RX3 ∈ TB := inT 31 (by decide +kernel) rfl
theorem fgX8_23 : FG RX8 23 8 2 := ⟨_, _, _, _, _, ciX8, by decide, inT 101 (by decide +kernel) rfl⟩
theorem fpX8_23 : FP RX8 23 8 2 true (.array (.object "Stowfinish$Pipe")) := ⟨_, _, _, _, _, ciX8, by decide, inT 101 (by decide +kernel) rfl, rfl, rfl, fun _ => rfl⟩
theorem nwX8_27 : Cond.classLink RX8 27 RX1 ∈ TB := inT 33 (by decide +kernel) rfl
theorem lkX8_29 : LkI RX8 29 yX1_init := ⟨inT 35 (by decide +kernel) rfl, inT 36 (by decide +kernel) rfl, rfl⟩
theorem fgX8_30 : FG RX8 30 8 3 := ⟨_, _, _, _, _, ciX8, by decide, inT 102 (by decide +kernel) rfl⟩
theorem fpX8_30 : FP RX8 30 8 3 true (.object "Stowfinish$Hull") := ⟨_, _, _, _, _, ciX8, by decide, inT 102 (by decide +kernel) rfl, rfl, rfl, fun _ => rfl⟩
theorem nwX8_34 : Cond.classLink RX8 34 RX5 ∈ TB := inT 53 (by decide +kernel) rfl
theorem lkX8_36 : LkI RX8 36 yX5_init := ⟨inT 55 (by decide +kernel) rfl, inT 56 (by decide +kernel) rfl, rfl⟩
theorem fgX8_39 : FG RX8 39 8 4 := ⟨_, _, _, _, _, ciX8, by decide, inT 103 (by decide +kernel) rfl⟩
theorem fpX8_39 : FP RX8 39 8 4 true (.object "Stowfinish$Ways") := ⟨_, _, _, _, _, ciX8, by decide, inT 103 (by decide +kernel) rfl, rfl, rfl, fun _ => rfl⟩
theorem nwX8_43 : Cond.classLink RX8 43 RX7 ∈ TB := inT 63 (by decide +kernel) rfl
theorem lkX8_45 : LkI RX8 45 yX7_init := ⟨inT 65 (by decide +kernel) rfl, inT 66 (by decide +kernel) rfl, rfl⟩
theorem fgX8_46 : FG RX8 46 8 5 := ⟨_, _, _, _, _, ciX8, by decide, inT 104 (by decide +kernel) rfl⟩
theorem fpX8_46 : FP RX8 46 8 5 true (.object "Stowfinish$Welders") := ⟨_, _, _, _, _, ciX8, by decide, inT 104 (by decide +kernel) rfl, rfl, rfl, fun _ => rfl⟩
theorem nwX8_50 : Cond.classLink RX8 50 RX2 ∈ TB := inT 82 (by decide +kernel) rfl
theorem lkX8_52 : LkI RX8 52 yX2_init := ⟨inT 84 (by decide +kernel) rfl, inT 85 (by decide +kernel) rfl, rfl⟩
theorem fgX8_53 : FG RX8 53 8 6 := ⟨_, _, _, _, _, ciX8, by decide, inT 105 (by decide +kernel) rfl⟩
theorem fpX8_53 : FP RX8 53 8 6 true (.object "Stowfinish$Ledger") := ⟨_, _, _, _, _, ciX8, by decide, inT 105 (by decide +kernel) rfl, rfl, rfl, fun _ => rfl⟩
theorem fgX8_57 : FG RX8 57 8 7 := ⟨_, _, _, _, _, ciX8, by decide, inT 106 (by decide +kernel) rfl⟩
theorem fpX8_57 : FP RX8 57 8 7 false (.int) := ⟨_, _, _, _, _, ciX8, by decide, inT 106 (by decide +kernel) rfl, rfl, rfl, fun z => nomatch z⟩
theorem fgX8_61 : FG RX8 61 8 8 := ⟨_, _, _, _, _, ciX8, by decide, inT 107 (by decide +kernel) rfl⟩
theorem fpX8_61 : FP RX8 61 8 8 false (.int) := ⟨_, _, _, _, _, ciX8, by decide, inT 107 (by decide +kernel) rfl, rfl, rfl, fun z => nomatch z⟩
theorem fgX8_64 : FG RX8 64 8 9 := ⟨_, _, _, _, _, ciX8, by decide, inT 108 (by decide +kernel) rfl⟩
theorem fpX8_64 : FP RX8 64 8 9 false (.int) := ⟨_, _, _, _, _, ciX8, by decide, inT 108 (by decide +kernel) rfl, rfl, rfl, fun z => nomatch z⟩
theorem fgX8_67 : FG RX8 67 8 10 := ⟨_, _, _, _, _, ciX8, by decide, inT 109 (by decide +kernel) rfl⟩
theorem fpX8_67 : FP RX8 67 8 10 false (.int) := ⟨_, _, _, _, _, ciX8, by decide, inT 109 (by decide +kernel) rfl, rfl, rfl, fun z => nomatch z⟩
theorem fgX8_70 : FG RX8 70 8 11 := ⟨_, _, _, _, _, ciX8, by decide, inT 110 (by decide +kernel) rfl⟩
theorem fpX8_70 : FP RX8 70 8 11 false (.int) := ⟨_, _, _, _, _, ciX8, by decide, inT 110 (by decide +kernel) rfl, rfl, rfl, fun z => nomatch z⟩
theorem fgX8_73 : FG RX8 73 8 12 := ⟨_, _, _, _, _, ciX8, by decide, inT 111 (by decide +kernel) rfl⟩
theorem fpX8_73 : FP RX8 73 8 12 false (.int) := ⟨_, _, _, _, _, ciX8, by decide, inT 111 (by decide +kernel) rfl, rfl, rfl, fun z => nomatch z⟩
theorem fgX8_76 : FG RX8 76 8 13 := ⟨_, _, _, _, _, ciX8, by decide, inT 112 (by decide +kernel) rfl⟩
theorem fpX8_76 : FP RX8 76 8 13 false (.int) := ⟨_, _, _, _, _, ciX8, by decide, inT 112 (by decide +kernel) rfl, rfl, rfl, fun z => nomatch z⟩
theorem fgX8_79 : FG RX8 79 8 14 := ⟨_, _, _, _, _, ciX8, by decide, inT 113 (by decide +kernel) rfl⟩
theorem fpX8_79 : FP RX8 79 8 14 false (.boolean) := ⟨_, _, _, _, _, ciX8, by decide, inT 113 (by decide +kernel) rfl, rfl, rfl, fun z => nomatch z⟩
theorem lkX8_83 : LkS RX8 83 yX8_isWithin := ⟨inT 256 (by decide +kernel) rfl, inT 257 (by decide +kernel) rfl⟩
theorem lkX8_94 : LkS RX8 94 yX8_isFrame := ⟨inT 335 (by decide +kernel) rfl, inT 336 (by decide +kernel) rfl⟩
theorem fgX8_105 : FG RX8 105 7 0 := ⟨_, _, _, _, _, ciX7, by decide, inT 73 (by decide +kernel) rfl⟩
theorem fgX8_113 : FG RX8 113 7 1 := ⟨_, _, _, _, _, ciX7, by decide, inT 75 (by decide +kernel) rfl⟩
theorem fpX8_113 : FP RX8 113 7 1 false (.int) := ⟨_, _, _, _, _, ciX7, by decide, inT 75 (by decide +kernel) rfl, rfl, rfl, fun z => nomatch z⟩
theorem lkX8_120 : LkV RX8 120 yX8_hasSpaceForBlock := ⟨inT 374 (by decide +kernel) rfl, inT 376 (by decide +kernel) rfl, inS 2 (by decide +kernel) rfl⟩
theorem nwX8_9 : Cond.classLink RX8 9 RX0 ∈ TB := inT 27 (by decide +kernel) rfl
theorem lkX8_129 : LkI RX8 129 yX0_init := ⟨inT 395 (by decide +kernel) rfl, inT 396 (by decide +kernel) rfl, rfl⟩
theorem lkX8_132 : LkV RX8 132 yX8_keep := ⟨inT 447 (by decide +kernel) rfl, inT 449 (by decide +kernel) rfl, inS 3 (by decide +kernel) rfl⟩
theorem lkX8_136 : LkV RX8 136 yX8_blockOf := ⟨inT 458 (by decide +kernel) rfl, inT 460 (by decide +kernel) rfl, inS 4 (by decide +kernel) rfl⟩
theorem lkX8_140 : LkV RX8 140 yX7_has := ⟨inT 462 (by decide +kernel) rfl, inT 463 (by decide +kernel) rfl, inT 464 (by decide +kernel) rfl⟩
theorem lkX8_145 : LkV RX8 145 yX8_canJoin := ⟨inT 467 (by decide +kernel) rfl, inT 469 (by decide +kernel) rfl, inS 5 (by decide +kernel) rfl⟩
theorem lkX8_149 : LkV RX8 149 yX8_hasSpaceForWelds := ⟨inT 475 (by decide +kernel) rfl, inT 477 (by decide +kernel) rfl, inS 6 (by decide +kernel) rfl⟩
theorem fgX8_154 : FG RX8 154 0 6 := ⟨_, _, _, _, _, ciX0, by decide, inT 418 (by decide +kernel) rfl⟩
theorem fgX8_157 : FG RX8 157 0 3 := ⟨_, _, _, _, _, ciX0, by decide, inT 411 (by decide +kernel) rfl⟩
theorem fgX8_160 : FG RX8 160 0 1 := ⟨_, _, _, _, _, ciX0, by decide, inT 404 (by decide +kernel) rfl⟩
theorem fgX8_163 : FG RX8 163 0 2 := ⟨_, _, _, _, _, ciX0, by decide, inT 407 (by decide +kernel) rfl⟩
theorem lkX8_166 : LkS RX8 166 yX8_tonsTogether := ⟨inT 472 (by decide +kernel) rfl, inT 473 (by decide +kernel) rfl⟩
theorem fgX8_170 : FG RX8 170 0 5 := ⟨_, _, _, _, _, ciX0, by decide, inT 416 (by decide +kernel) rfl⟩
theorem lkX8_173 : LkS RX8 173 yX8_becomePart := ⟨inT 480 (by decide +kernel) rfl, inT 481 (by decide +kernel) rfl⟩
theorem lkX8_177 : LkV RX8 177 yX8_makeWeld := ⟨inT 483 (by decide +kernel) rfl, inT 485 (by decide +kernel) rfl, inS 7 (by decide +kernel) rfl⟩
theorem lkX8_181 : LkV RX8 181 yX8_neighbourAhead := ⟨inT 552 (by decide +kernel) rfl, inT 554 (by decide +kernel) rfl, inS 10 (by decide +kernel) rfl⟩
theorem lkX8_185 : LkV RX8 185 yX8_neighbourBehind := ⟨inT 561 (by decide +kernel) rfl, inT 563 (by decide +kernel) rfl, inS 11 (by decide +kernel) rfl⟩
theorem lkX8_188 : LkV RX8 188 yX8_reasonAgainst := ⟨inT 565 (by decide +kernel) rfl, inT 567 (by decide +kernel) rfl, inS 12 (by decide +kernel) rfl⟩
theorem lkX8_193 : LkS RX8 193 yX8_excess := ⟨inT 589 (by decide +kernel) rfl, inT 590 (by decide +kernel) rfl⟩
theorem maX8_197 : Cond.methodLink RX8 197 Lib.Math.max.name ∈ TB := inT 584 (by decide +kernel) rfl
theorem fpX8_154 : FP RX8 154 0 6 false (.int) := ⟨_, _, _, _, _, ciX0, by decide, inT 418 (by decide +kernel) rfl, rfl, rfl, fun z => nomatch z⟩
theorem lkX8_203 : LkS RX8 203 yX8_beginOf := ⟨inT 597 (by decide +kernel) rfl, inT 598 (by decide +kernel) rfl⟩
theorem fgX8_206 : FG RX8 206 0 7 := ⟨_, _, _, _, _, ciX0, by decide, inT 420 (by decide +kernel) rfl⟩
theorem fpX8_206 : FP RX8 206 0 7 false (.int) := ⟨_, _, _, _, _, ciX0, by decide, inT 420 (by decide +kernel) rfl, rfl, rfl, fun z => nomatch z⟩
theorem fgX8_209 : FG RX8 209 0 8 := ⟨_, _, _, _, _, ciX0, by decide, inT 423 (by decide +kernel) rfl⟩
theorem fpX8_209 : FP RX8 209 0 8 false (.int) := ⟨_, _, _, _, _, ciX0, by decide, inT 423 (by decide +kernel) rfl, rfl, rfl, fun z => nomatch z⟩
theorem lkX8_212 : LkV RX8 212 yX1_fill := ⟨inT 600 (by decide +kernel) rfl, inT 601 (by decide +kernel) rfl, inT 602 (by decide +kernel) rfl⟩
theorem lkX8_216 : LkV RX8 216 yX0_frames := ⟨inT 471 (by decide +kernel) rfl, inT 182 (by decide +kernel) rfl, inT 183 (by decide +kernel) rfl⟩
theorem lkX8_220 : LkV RX8 220 yX2_enter := ⟨inT 541 (by decide +kernel) rfl, inT 542 (by decide +kernel) rfl, inT 543 (by decide +kernel) rfl⟩
theorem lkX8_228 : LkV RX8 228 yX0_outermost := ⟨inT 656 (by decide +kernel) rfl, inT 219 (by decide +kernel) rfl, inT 220 (by decide +kernel) rfl⟩
theorem lkX8_232 : LkV RX8 232 yX8_weldOf := ⟨inT 664 (by decide +kernel) rfl, inT 666 (by decide +kernel) rfl, inS 17 (by decide +kernel) rfl⟩
theorem fgX8_238 : FG RX8 238 6 2 := ⟨_, _, _, _, _, ciX6, by decide, inT 497 (by decide +kernel) rfl⟩
theorem lkX8_241 : LkV RX8 241 yX6_isScrapped := ⟨inT 669 (by decide +kernel) rfl, inT 670 (by decide +kernel) rfl, inT 671 (by decide +kernel) rfl⟩
theorem fgX8_246 : FG RX8 246 6 4 := ⟨_, _, _, _, _, ciX6, by decide, inT 501 (by decide +kernel) rfl⟩
theorem fpX8_238 : FP RX8 238 6 2 false (.int) := ⟨_, _, _, _, _, ciX6, by decide, inT 497 (by decide +kernel) rfl, rfl, rfl, fun z => nomatch z⟩
theorem fgX8_251 : FG RX8 251 6 3 := ⟨_, _, _, _, _, ciX6, by decide, inT 499 (by decide +kernel) rfl⟩
theorem fpX8_251 : FP RX8 251 6 3 false (.int) := ⟨_, _, _, _, _, ciX6, by decide, inT 499 (by decide +kernel) rfl, rfl, rfl, fun z => nomatch z⟩
theorem lkX8_256 : LkV RX8 256 yX8_weldNow := ⟨inT 513 (by decide +kernel) rfl, inT 515 (by decide +kernel) rfl, inS 8 (by decide +kernel) rfl⟩
theorem lkX8_260 : LkV RX8 260 yX1_roomOf := ⟨inT 690 (by decide +kernel) rfl, inT 534 (by decide +kernel) rfl, inT 535 (by decide +kernel) rfl⟩
theorem lkX8_264 : LkV RX8 264 yX8_roomNextTo := ⟨inT 691 (by decide +kernel) rfl, inT 693 (by decide +kernel) rfl, inS 18 (by decide +kernel) rfl⟩
theorem fgX8_270 : FG RX8 270 4 5 := ⟨_, _, _, _, _, ciX4, by decide, inT 625 (by decide +kernel) rfl⟩
theorem fpX8_270 : FP RX8 270 4 5 false (.int) := ⟨_, _, _, _, _, ciX4, by decide, inT 625 (by decide +kernel) rfl, rfl, rfl, fun z => nomatch z⟩
theorem lkX8_277 : LkV RX8 277 yX4_spoil := ⟨inT 537 (by decide +kernel) rfl, inT 538 (by decide +kernel) rfl, inT 539 (by decide +kernel) rfl⟩
theorem fgX8_280 : FG RX8 280 4 2 := ⟨_, _, _, _, _, ciX4, by decide, inT 616 (by decide +kernel) rfl⟩
theorem fpX8_280 : FP RX8 280 4 2 false (.boolean) := ⟨_, _, _, _, _, ciX4, by decide, inT 616 (by decide +kernel) rfl, rfl, rfl, fun z => nomatch z⟩
theorem lkX8_285 : LkV RX8 285 yX1_painted := ⟨inT 706 (by decide +kernel) rfl, inT 707 (by decide +kernel) rfl, inT 708 (by decide +kernel) rfl⟩
theorem fgX8_288 : FG RX8 288 4 3 := ⟨_, _, _, _, _, ciX4, by decide, inT 619 (by decide +kernel) rfl⟩
theorem fpX8_288 : FP RX8 288 4 3 false (.int) := ⟨_, _, _, _, _, ciX4, by decide, inT 619 (by decide +kernel) rfl, rfl, rfl, fun z => nomatch z⟩
theorem lkX8_293 : LkV RX8 293 yX4_frame := ⟨inT 695 (by decide +kernel) rfl, inT 174 (by decide +kernel) rfl, inT 175 (by decide +kernel) rfl⟩
theorem lkX8_296 : LkV RX8 296 yX1_load := ⟨inT 718 (by decide +kernel) rfl, inT 644 (by decide +kernel) rfl, inT 645 (by decide +kernel) rfl⟩
theorem lkX8_304 : LkV RX8 304 yX5_seek := ⟨inT 728 (by decide +kernel) rfl, inT 729 (by decide +kernel) rfl, inT 730 (by decide +kernel) rfl⟩
theorem nwX8_21 : Cond.classLink RX8 21 RX3 ∈ TB := inT 31 (by decide +kernel) rfl
theorem lkX8_310 : LkI RX8 310 yX3_init := ⟨inT 763 (by decide +kernel) rfl, inT 764 (by decide +kernel) rfl, rfl⟩
theorem lkX8_313 : LkV RX8 313 yX8_runThrough := ⟨inT 772 (by decide +kernel) rfl, inT 774 (by decide +kernel) rfl, inS 24 (by decide +kernel) rfl⟩
theorem lkX8_318 : LkS RX8 318 yX8_waterAt := ⟨inT 230 (by decide +kernel) rfl, inT 231 (by decide +kernel) rfl⟩
theorem lkX8_322 : LkV RX8 322 yX1_greaterDepth := ⟨inT 222 (by decide +kernel) rfl, inT 223 (by decide +kernel) rfl, inT 224 (by decide +kernel) rfl⟩
theorem lkX8_325 : LkV RX8 325 yX8_isReady := ⟨inT 206 (by decide +kernel) rfl, inT 208 (by decide +kernel) rfl, inS 0 (by decide +kernel) rfl⟩
theorem lkX8_332 : LkV RX8 332 yX0_fact := ⟨inT 800 (by decide +kernel) rfl, inT 801 (by decide +kernel) rfl, inT 802 (by decide +kernel) rfl⟩
theorem lkX8_335 : LkV RX8 335 yX6_fact := ⟨inT 811 (by decide +kernel) rfl, inT 812 (by decide +kernel) rfl, inT 813 (by decide +kernel) rfl⟩
theorem lkX8_338 : LkV RX8 338 yX4_fact := ⟨inT 823 (by decide +kernel) rfl, inT 824 (by decide +kernel) rfl, inT 825 (by decide +kernel) rfl⟩
theorem fgX8_341 : FG RX8 341 3 0 := ⟨_, _, _, _, _, ciX3, by decide, inT 768 (by decide +kernel) rfl⟩
theorem fgX8_344 : FG RX8 344 1 1 := ⟨_, _, _, _, _, ciX1, by decide, inT 44 (by decide +kernel) rfl⟩
theorem lkX8_347 : LkV RX8 347 yX1_tonsOfCells := ⟨inT 169 (by decide +kernel) rfl, inT 170 (by decide +kernel) rfl, inT 171 (by decide +kernel) rfl⟩
theorem lkX8_350 : LkV RX8 350 yX1_balance := ⟨inT 189 (by decide +kernel) rfl, inT 190 (by decide +kernel) rfl, inT 191 (by decide +kernel) rfl⟩
theorem lkX8_353 : LkV RX8 353 yX1_depth := ⟨inT 197 (by decide +kernel) rfl, inT 198 (by decide +kernel) rfl, inT 199 (by decide +kernel) rfl⟩
theorem fgX8_357 : FG RX8 357 2 2 := ⟨_, _, _, _, _, ciX2, by decide, inT 91 (by decide +kernel) rfl⟩
theorem lkX8_360 : LkV RX8 360 yX2_sumOfEntries := ⟨inT 244 (by decide +kernel) rfl, inT 245 (by decide +kernel) rfl, inT 246 (by decide +kernel) rfl⟩
theorem maX8_363 : Cond.methodLink RX8 363 Lib.Math.min.name ∈ TB := inT 233 (by decide +kernel) rfl
theorem fgX8_366 : FG RX8 366 0 0 := ⟨_, _, _, _, _, ciX0, by decide, inT 401 (by decide +kernel) rfl⟩
theorem fgX8_369 : FG RX8 369 0 4 := ⟨_, _, _, _, _, ciX0, by decide, inT 414 (by decide +kernel) rfl⟩
theorem fgX8_370 : FG RX8 370 0 9 := ⟨_, _, _, _, _, ciX0, by decide, inT 425 (by decide +kernel) rfl⟩
theorem fpX8_370 : FP RX8 370 0 9 false (.object "Stowfinish$Block") := ⟨_, _, _, _, _, ciX0, by decide, inT 425 (by decide +kernel) rfl, rfl, rfl, fun z => nomatch z⟩
theorem nwX8_15 : Cond.classLink RX8 15 RX6 ∈ TB := inT 29 (by decide +kernel) rfl
theorem lkX8_374 : LkI RX8 374 yX6_init := ⟨inT 488 (by decide +kernel) rfl, inT 489 (by decide +kernel) rfl, rfl⟩
theorem lkX8_377 : LkV RX8 377 yX7_drawFlaw := ⟨inT 517 (by decide +kernel) rfl, inT 518 (by decide +kernel) rfl, inT 519 (by decide +kernel) rfl⟩
theorem fpX8_246 : FP RX8 246 6 4 false (.boolean) := ⟨_, _, _, _, _, ciX6, by decide, inT 501 (by decide +kernel) rfl, rfl, rfl, fun z => nomatch z⟩
theorem lkX8_380 : LkV RX8 380 yX6_isStanding := ⟨inT 214 (by decide +kernel) rfl, inT 215 (by decide +kernel) rfl, inT 216 (by decide +kernel) rfl⟩
theorem fgX8_383 : FG RX8 383 6 1 := ⟨_, _, _, _, _, ciX6, by decide, inT 495 (by decide +kernel) rfl⟩
theorem fgX8_385 : FG RX8 385 6 0 := ⟨_, _, _, _, _, ciX6, by decide, inT 493 (by decide +kernel) rfl⟩
theorem lkX8_388 : LkV RX8 388 yX8_spoilAt := ⟨inT 522 (by decide +kernel) rfl, inT 524 (by decide +kernel) rfl, inS 9 (by decide +kernel) rfl⟩
theorem lkX8_391 : LkV RX8 391 yX1_roomOn := ⟨inT 526 (by decide +kernel) rfl, inT 527 (by decide +kernel) rfl, inT 528 (by decide +kernel) rfl⟩
theorem lkX8_395 : LkV RX8 395 yX8_isSomeFilled := ⟨inT 569 (by decide +kernel) rfl, inT 571 (by decide +kernel) rfl, inS 13 (by decide +kernel) rfl⟩
theorem lkX8_399 : LkV RX8 399 yX8_isSomeBelowEmpty := ⟨inT 573 (by decide +kernel) rfl, inT 575 (by decide +kernel) rfl, inS 14 (by decide +kernel) rfl⟩
theorem lkX8_402 : LkV RX8 402 yX8_liftOver := ⟨inT 577 (by decide +kernel) rfl, inT 579 (by decide +kernel) rfl, inS 15 (by decide +kernel) rfl⟩
theorem lkX8_405 : LkV RX8 405 yX8_isMisfit := ⟨inT 585 (by decide +kernel) rfl, inT 587 (by decide +kernel) rfl, inS 16 (by decide +kernel) rfl⟩
theorem maX8_408 : Cond.methodLink RX8 408 Lib.Math.abs.name ∈ TB := inT 581 (by decide +kernel) rfl
theorem lkX8_411 : LkV RX8 411 yX1_blockAt := ⟨inT 556 (by decide +kernel) rfl, inT 557 (by decide +kernel) rfl, inT 558 (by decide +kernel) rfl⟩
theorem lkX8_415 : LkV RX8 415 yX0_end := ⟨inT 592 (by decide +kernel) rfl, inT 593 (by decide +kernel) rfl, inT 594 (by decide +kernel) rfl⟩
theorem fgX8_418 : FG RX8 418 4 1 := ⟨_, _, _, _, _, ciX4, by decide, inT 613 (by decide +kernel) rfl⟩
theorem fgX8_419 : FG RX8 419 4 4 := ⟨_, _, _, _, _, ciX4, by decide, inT 622 (by decide +kernel) rfl⟩
theorem fpX8_419 : FP RX8 419 4 4 false (.int) := ⟨_, _, _, _, _, ciX4, by decide, inT 622 (by decide +kernel) rfl, rfl, rfl, fun z => nomatch z⟩
theorem lkX8_421 : LkV RX8 421 yX1_isFull := ⟨inT 210 (by decide +kernel) rfl, inT 211 (by decide +kernel) rfl, inT 212 (by decide +kernel) rfl⟩
theorem obX9_1 : Cond.methodLink RX9 1 Lib.objectInit ∈ TB := inT 847 (by decide +kernel) rfl
theorem fgX9_7 : FG RX9 7 9 0 := ⟨_, _, _, _, _, ciX9, by decide, inT 848 (by decide +kernel) rfl⟩
theorem fpX9_7 : FP RX9 7 9 0 false (.int) := ⟨_, _, _, _, _, ciX9, by decide, inT 848 (by decide +kernel) rfl, rfl, rfl, fun z => nomatch z⟩
theorem fgX9_13 : FG RX9 13 9 1 := ⟨_, _, _, _, _, ciX9, by decide, inT 849 (by decide +kernel) rfl⟩
theorem fpX9_13 : FP RX9 13 9 1 false (.int) := ⟨_, _, _, _, _, ciX9, by decide, inT 849 (by decide +kernel) rfl, rfl, rfl, fun z => nomatch z⟩
theorem fgX9_16 : FG RX9 16 9 3 := ⟨_, _, _, _, _, ciX9, by decide, inT 851 (by decide +kernel) rfl⟩
theorem fpX9_16 : FP RX9 16 9 3 false (.int) := ⟨_, _, _, _, _, ciX9, by decide, inT 851 (by decide +kernel) rfl, rfl, rfl, fun z => nomatch z⟩
theorem fgX9_19 : FG RX9 19 9 4 := ⟨_, _, _, _, _, ciX9, by decide, inT 852 (by decide +kernel) rfl⟩
theorem fpX9_19 : FP RX9 19 9 4 false (.int) := ⟨_, _, _, _, _, ciX9, by decide, inT 852 (by decide +kernel) rfl, rfl, rfl, fun z => nomatch z⟩
theorem fgX9_22 : FG RX9 22 9 5 := ⟨_, _, _, _, _, ciX9, by decide, inT 853 (by decide +kernel) rfl⟩
theorem fpX9_22 : FP RX9 22 9 5 true (.array .int) := ⟨_, _, _, _, _, ciX9, by decide, inT 853 (by decide +kernel) rfl, rfl, rfl, fun _ => rfl⟩
theorem fgX9_26 : FG RX9 26 9 9 := ⟨_, _, _, _, _, ciX9, by decide, inT 857 (by decide +kernel) rfl⟩
theorem fpX9_26 : FP RX9 26 9 9 true (.array .int) := ⟨_, _, _, _, _, ciX9, by decide, inT 857 (by decide +kernel) rfl, rfl, rfl, fun _ => rfl⟩
theorem fgX9_29 : FG RX9 29 9 10 := ⟨_, _, _, _, _, ciX9, by decide, inT 858 (by decide +kernel) rfl⟩
theorem fpX9_29 : FP RX9 29 9 10 true (.array .int) := ⟨_, _, _, _, _, ciX9, by decide, inT 858 (by decide +kernel) rfl, rfl, rfl, fun _ => rfl⟩
theorem fgX9_32 : FG RX9 32 9 11 := ⟨_, _, _, _, _, ciX9, by decide, inT 859 (by decide +kernel) rfl⟩
theorem fpX9_32 : FP RX9 32 9 11 true (.array .int) := ⟨_, _, _, _, _, ciX9, by decide, inT 859 (by decide +kernel) rfl, rfl, rfl, fun _ => rfl⟩
theorem fgX9_35 : FG RX9 35 9 12 := ⟨_, _, _, _, _, ciX9, by decide, inT 860 (by decide +kernel) rfl⟩
theorem fpX9_35 : FP RX9 35 9 12 true (.array .int) := ⟨_, _, _, _, _, ciX9, by decide, inT 860 (by decide +kernel) rfl, rfl, rfl, fun _ => rfl⟩
theorem fgX9_38 : FG RX9 38 9 13 := ⟨_, _, _, _, _, ciX9, by decide, inT 861 (by decide +kernel) rfl⟩
theorem fpX9_38 : FP RX9 38 9 13 true (.array .int) := ⟨_, _, _, _, _, ciX9, by decide, inT 861 (by decide +kernel) rfl, rfl, rfl, fun _ => rfl⟩
theorem fgX9_41 : FG RX9 41 9 14 := ⟨_, _, _, _, _, ciX9, by decide, inT 862 (by decide +kernel) rfl⟩
theorem fpX9_41 : FP RX9 41 9 14 true (.array .int) := ⟨_, _, _, _, _, ciX9, by decide, inT 862 (by decide +kernel) rfl, rfl, rfl, fun _ => rfl⟩
theorem fgX9_44 : FG RX9 44 9 15 := ⟨_, _, _, _, _, ciX9, by decide, inT 863 (by decide +kernel) rfl⟩
theorem fpX9_44 : FP RX9 44 9 15 true (.array .int) := ⟨_, _, _, _, _, ciX9, by decide, inT 863 (by decide +kernel) rfl, rfl, rfl, fun _ => rfl⟩
theorem fgX9_47 : FG RX9 47 9 16 := ⟨_, _, _, _, _, ciX9, by decide, inT 864 (by decide +kernel) rfl⟩
theorem fpX9_47 : FP RX9 47 9 16 true (.array .int) := ⟨_, _, _, _, _, ciX9, by decide, inT 864 (by decide +kernel) rfl, rfl, rfl, fun _ => rfl⟩
theorem fgX9_50 : FG RX9 50 9 17 := ⟨_, _, _, _, _, ciX9, by decide, inT 865 (by decide +kernel) rfl⟩
theorem fpX9_50 : FP RX9 50 9 17 true (.array .int) := ⟨_, _, _, _, _, ciX9, by decide, inT 865 (by decide +kernel) rfl, rfl, rfl, fun _ => rfl⟩
theorem fgX9_53 : FG RX9 53 9 19 := ⟨_, _, _, _, _, ciX9, by decide, inT 867 (by decide +kernel) rfl⟩
theorem fpX9_53 : FP RX9 53 9 19 true (.array .int) := ⟨_, _, _, _, _, ciX9, by decide, inT 867 (by decide +kernel) rfl, rfl, rfl, fun _ => rfl⟩
theorem fgX9_56 : FG RX9 56 9 20 := ⟨_, _, _, _, _, ciX9, by decide, inT 868 (by decide +kernel) rfl⟩
theorem fpX9_56 : FP RX9 56 9 20 true (.array .boolean) := ⟨_, _, _, _, _, ciX9, by decide, inT 868 (by decide +kernel) rfl, rfl, rfl, fun _ => rfl⟩
theorem fgX9_60 : FG RX9 60 9 21 := ⟨_, _, _, _, _, ciX9, by decide, inT 869 (by decide +kernel) rfl⟩
theorem fpX9_60 : FP RX9 60 9 21 true (.array .int) := ⟨_, _, _, _, _, ciX9, by decide, inT 869 (by decide +kernel) rfl, rfl, rfl, fun _ => rfl⟩
theorem fgX9_63 : FG RX9 63 9 22 := ⟨_, _, _, _, _, ciX9, by decide, inT 870 (by decide +kernel) rfl⟩
theorem fpX9_63 : FP RX9 63 9 22 true (.array .int) := ⟨_, _, _, _, _, ciX9, by decide, inT 870 (by decide +kernel) rfl, rfl, rfl, fun _ => rfl⟩
theorem fgX9_66 : FG RX9 66 9 23 := ⟨_, _, _, _, _, ciX9, by decide, inT 871 (by decide +kernel) rfl⟩
theorem fpX9_66 : FP RX9 66 9 23 true (.array .int) := ⟨_, _, _, _, _, ciX9, by decide, inT 871 (by decide +kernel) rfl, rfl, rfl, fun _ => rfl⟩
theorem fgX9_69 : FG RX9 69 9 24 := ⟨_, _, _, _, _, ciX9, by decide, inT 872 (by decide +kernel) rfl⟩
theorem fpX9_69 : FP RX9 69 9 24 true (.array .int) := ⟨_, _, _, _, _, ciX9, by decide, inT 872 (by decide +kernel) rfl, rfl, rfl, fun _ => rfl⟩
theorem fgX9_72 : FG RX9 72 9 25 := ⟨_, _, _, _, _, ciX9, by decide, inT 873 (by decide +kernel) rfl⟩
theorem fpX9_72 : FP RX9 72 9 25 true (.array .int) := ⟨_, _, _, _, _, ciX9, by decide, inT 873 (by decide +kernel) rfl, rfl, rfl, fun _ => rfl⟩
theorem fgX9_75 : FG RX9 75 9 26 := ⟨_, _, _, _, _, ciX9, by decide, inT 874 (by decide +kernel) rfl⟩
theorem fpX9_75 : FP RX9 75 9 26 true (.array .boolean) := ⟨_, _, _, _, _, ciX9, by decide, inT 874 (by decide +kernel) rfl, rfl, rfl, fun _ => rfl⟩
theorem fgX9_78 : FG RX9 78 9 27 := ⟨_, _, _, _, _, ciX9, by decide, inT 875 (by decide +kernel) rfl⟩
theorem fpX9_78 : FP RX9 78 9 27 true (.array .int) := ⟨_, _, _, _, _, ciX9, by decide, inT 875 (by decide +kernel) rfl, rfl, rfl, fun _ => rfl⟩
theorem fgX9_81 : FG RX9 81 9 28 := ⟨_, _, _, _, _, ciX9, by decide, inT 876 (by decide +kernel) rfl⟩
theorem fpX9_81 : FP RX9 81 9 28 true (.array .int) := ⟨_, _, _, _, _, ciX9, by decide, inT 876 (by decide +kernel) rfl, rfl, rfl, fun _ => rfl⟩
theorem fgX9_84 : FG RX9 84 9 29 := ⟨_, _, _, _, _, ciX9, by decide, inT 877 (by decide +kernel) rfl⟩
theorem fpX9_84 : FP RX9 84 9 29 true (.array .int) := ⟨_, _, _, _, _, ciX9, by decide, inT 877 (by decide +kernel) rfl, rfl, rfl, fun _ => rfl⟩
theorem fgX9_87 : FG RX9 87 9 31 := ⟨_, _, _, _, _, ciX9, by decide, inT 879 (by decide +kernel) rfl⟩
theorem fpX9_87 : FP RX9 87 9 31 true (.array .int) := ⟨_, _, _, _, _, ciX9, by decide, inT 879 (by decide +kernel) rfl, rfl, rfl, fun _ => rfl⟩
theorem fgX9_90 : FG RX9 90 9 32 := ⟨_, _, _, _, _, ciX9, by decide, inT 880 (by decide +kernel) rfl⟩
theorem fpX9_90 : FP RX9 90 9 32 true (.array .int) := ⟨_, _, _, _, _, ciX9, by decide, inT 880 (by decide +kernel) rfl, rfl, rfl, fun _ => rfl⟩
theorem fgX9_93 : FG RX9 93 9 33 := ⟨_, _, _, _, _, ciX9, by decide, inT 881 (by decide +kernel) rfl⟩
theorem fpX9_93 : FP RX9 93 9 33 true (.array .int) := ⟨_, _, _, _, _, ciX9, by decide, inT 881 (by decide +kernel) rfl, rfl, rfl, fun _ => rfl⟩
theorem fgX9_96 : FG RX9 96 9 34 := ⟨_, _, _, _, _, ciX9, by decide, inT 882 (by decide +kernel) rfl⟩
theorem fpX9_96 : FP RX9 96 9 34 false (.int) := ⟨_, _, _, _, _, ciX9, by decide, inT 882 (by decide +kernel) rfl, rfl, rfl, fun z => nomatch z⟩
theorem lkX9_99 : LkS RX9 99 yX9_isIn := ⟨inT 963 (by decide +kernel) rfl, inT 964 (by decide +kernel) rfl⟩
theorem fgX9_103 : FG RX9 103 9 8 := ⟨_, _, _, _, _, ciX9, by decide, inT 856 (by decide +kernel) rfl⟩
theorem fgX9_106 : FG RX9 106 9 18 := ⟨_, _, _, _, _, ciX9, by decide, inT 866 (by decide +kernel) rfl⟩
theorem lkX9_109 : LkV RX9 109 yX9_fails := ⟨inT 966 (by decide +kernel) rfl, inT 968 (by decide +kernel) rfl, inS 25 (by decide +kernel) rfl⟩
theorem lkX9_113 : LkS RX9 113 yX9_isFrame := ⟨inT 974 (by decide +kernel) rfl, inT 975 (by decide +kernel) rfl⟩
theorem fgX9_116 : FG RX9 116 9 2 := ⟨_, _, _, _, _, ciX9, by decide, inT 850 (by decide +kernel) rfl⟩
theorem fpX9_116 : FP RX9 116 9 2 false (.int) := ⟨_, _, _, _, _, ciX9, by decide, inT 850 (by decide +kernel) rfl, rfl, rfl, fun z => nomatch z⟩
theorem lkX9_119 : LkS RX9 119 yX9_isWelder := ⟨inT 981 (by decide +kernel) rfl, inT 982 (by decide +kernel) rfl⟩
theorem fpX9_103 : FP RX9 103 9 8 false (.int) := ⟨_, _, _, _, _, ciX9, by decide, inT 856 (by decide +kernel) rfl, rfl, rfl, fun z => nomatch z⟩
theorem lkX9_122 : LkS RX9 122 yX9_isLevel := ⟨inT 992 (by decide +kernel) rfl, inT 993 (by decide +kernel) rfl⟩
theorem fgX9_125 : FG RX9 125 9 6 := ⟨_, _, _, _, _, ciX9, by decide, inT 854 (by decide +kernel) rfl⟩
theorem lkX9_129 : LkV RX9 129 yX9_adds := ⟨inT 995 (by decide +kernel) rfl, inT 997 (by decide +kernel) rfl, inS 26 (by decide +kernel) rfl⟩
theorem lcX9_133 : Cond.constant RX9 133 1103515245 ∈ TB := inT 1019 (by decide +kernel) rfl
theorem fpX9_106 : FP RX9 106 9 18 false (.int) := ⟨_, _, _, _, _, ciX9, by decide, inT 866 (by decide +kernel) rfl, rfl, rfl, fun z => nomatch z⟩
theorem fgX9_134 : FG RX9 134 9 7 := ⟨_, _, _, _, _, ciX9, by decide, inT 855 (by decide +kernel) rfl⟩
theorem fpX9_134 : FP RX9 134 9 7 false (.int) := ⟨_, _, _, _, _, ciX9, by decide, inT 855 (by decide +kernel) rfl, rfl, rfl, fun z => nomatch z⟩
theorem lkX9_137 : LkV RX9 137 yX9_draws := ⟨inT 1015 (by decide +kernel) rfl, inT 1017 (by decide +kernel) rfl, inS 30 (by decide +kernel) rfl⟩
theorem lkX9_141 : LkV RX9 141 yX9_isBlock := ⟨inT 1003 (by decide +kernel) rfl, inT 1005 (by decide +kernel) rfl, inS 27 (by decide +kernel) rfl⟩
theorem lkX9_144 : LkV RX9 144 yX9_canJoin := ⟨inT 1007 (by decide +kernel) rfl, inT 1009 (by decide +kernel) rfl, inS 28 (by decide +kernel) rfl⟩
theorem lkX9_148 : LkV RX9 148 yX9_makes := ⟨inT 1011 (by decide +kernel) rfl, inT 1013 (by decide +kernel) rfl, inS 29 (by decide +kernel) rfl⟩
theorem lkX9_152 : LkV RX9 152 yX9_endOf := ⟨inT 1036 (by decide +kernel) rfl, inT 1038 (by decide +kernel) rfl, inS 34 (by decide +kernel) rfl⟩
theorem lkX9_156 : LkV RX9 156 yX9_blockAt := ⟨inT 1024 (by decide +kernel) rfl, inT 1026 (by decide +kernel) rfl, inS 31 (by decide +kernel) rfl⟩
theorem lkX9_160 : LkV RX9 160 yX9_space := ⟨inT 1032 (by decide +kernel) rfl, inT 1034 (by decide +kernel) rfl, inS 33 (by decide +kernel) rfl⟩
theorem lkX9_163 : LkV RX9 163 yX9_reason := ⟨inT 1028 (by decide +kernel) rfl, inT 1030 (by decide +kernel) rfl, inS 32 (by decide +kernel) rfl⟩
theorem lkX9_166 : LkV RX9 166 yX9_spoils := ⟨inT 1040 (by decide +kernel) rfl, inT 1042 (by decide +kernel) rfl, inS 35 (by decide +kernel) rfl⟩
theorem lkX9_169 : LkV RX9 169 yX9_whole := ⟨inT 1048 (by decide +kernel) rfl, inT 1050 (by decide +kernel) rfl, inS 36 (by decide +kernel) rfl⟩
theorem lkX9_172 : LkV RX9 172 yX9_isWeld := ⟨inT 1056 (by decide +kernel) rfl, inT 1058 (by decide +kernel) rfl, inS 37 (by decide +kernel) rfl⟩
theorem lkX9_175 : LkV RX9 175 yX9_isScrapped := ⟨inT 1060 (by decide +kernel) rfl, inT 1062 (by decide +kernel) rfl, inS 38 (by decide +kernel) rfl⟩
theorem lkX9_178 : LkV RX9 178 yX9_stands := ⟨inT 1068 (by decide +kernel) rfl, inT 1070 (by decide +kernel) rfl, inS 39 (by decide +kernel) rfl⟩
theorem lkX9_181 : LkV RX9 181 yX9_isRoom := ⟨inT 1076 (by decide +kernel) rfl, inT 1078 (by decide +kernel) rfl, inS 40 (by decide +kernel) rfl⟩
theorem lkX9_184 : LkV RX9 184 yX9_beyond := ⟨inT 1096 (by decide +kernel) rfl, inT 1098 (by decide +kernel) rfl, inS 42 (by decide +kernel) rfl⟩
theorem lkX9_187 : LkV RX9 187 yX9_ways := ⟨inT 1092 (by decide +kernel) rfl, inT 1094 (by decide +kernel) rfl, inS 41 (by decide +kernel) rfl⟩
theorem fgX9_191 : FG RX9 191 9 30 := ⟨_, _, _, _, _, ciX9, by decide, inT 878 (by decide +kernel) rfl⟩
theorem lkX9_194 : LkV RX9 194 yX9_nearer := ⟨inT 1100 (by decide +kernel) rfl, inT 1102 (by decide +kernel) rfl, inS 43 (by decide +kernel) rfl⟩
theorem fpX9_191 : FP RX9 191 9 30 false (.int) := ⟨_, _, _, _, _, ciX9, by decide, inT 878 (by decide +kernel) rfl, rfl, rfl, fun z => nomatch z⟩
theorem lkX9_197 : LkV RX9 197 yX9_tonsOf := ⟨inT 1124 (by decide +kernel) rfl, inT 1126 (by decide +kernel) rfl, inS 48 (by decide +kernel) rfl⟩
theorem lkX9_201 : LkV RX9 201 yX9_centreOf := ⟨inT 1128 (by decide +kernel) rfl, inT 1130 (by decide +kernel) rfl, inS 49 (by decide +kernel) rfl⟩
theorem lkX9_204 : LkV RX9 204 yX9_draughtOf := ⟨inT 1120 (by decide +kernel) rfl, inT 1122 (by decide +kernel) rfl, inS 47 (by decide +kernel) rfl⟩
theorem lkX9_208 : LkV RX9 208 yX9_isWhole := ⟨inT 1112 (by decide +kernel) rfl, inT 1114 (by decide +kernel) rfl, inS 45 (by decide +kernel) rfl⟩
theorem lkX9_212 : LkV RX9 212 yX9_greater := ⟨inT 1116 (by decide +kernel) rfl, inT 1118 (by decide +kernel) rfl, inS 46 (by decide +kernel) rfl⟩
theorem lkX9_215 : LkS RX9 215 yX9_waterIn := ⟨inT 1132 (by decide +kernel) rfl, inT 1133 (by decide +kernel) rfl⟩
theorem lkX9_218 : LkV RX9 218 yX9_canLaunch := ⟨inT 1108 (by decide +kernel) rfl, inT 1110 (by decide +kernel) rfl, inS 44 (by decide +kernel) rfl⟩
theorem fpX9_125 : FP RX9 125 9 6 false (.boolean) := ⟨_, _, _, _, _, ciX9, by decide, inT 854 (by decide +kernel) rfl, rfl, rfl, fun z => nomatch z⟩
theorem lkX9_221 : LkV RX9 221 yX9_tells := ⟨inT 1139 (by decide +kernel) rfl, inT 1141 (by decide +kernel) rfl, inS 50 (by decide +kernel) rfl⟩
theorem lkL_7 : LkV RL 7 yX8_hall := ⟨inT 252 (by decide +kernel) rfl, inT 253 (by decide +kernel) rfl, inT 254 (by decide +kernel) rfl⟩
theorem lkL_15 : LkV RL 15 yX8_crane := ⟨inT 331 (by decide +kernel) rfl, inT 332 (by decide +kernel) rfl, inT 333 (by decide +kernel) rfl⟩
theorem lkL_20 : LkV RL 20 yX8_welder := ⟨inT 358 (by decide +kernel) rfl, inT 359 (by decide +kernel) rfl, inT 360 (by decide +kernel) rfl⟩
theorem lkL_23 : LkV RL 23 yX8_block := ⟨inT 368 (by decide +kernel) rfl, inT 369 (by decide +kernel) rfl, inT 370 (by decide +kernel) rfl⟩
theorem lkL_29 : LkV RL 29 yX8_join := ⟨inT 454 (by decide +kernel) rfl, inT 455 (by decide +kernel) rfl, inT 456 (by decide +kernel) rfl⟩
theorem lkL_33 : LkV RL 33 yX8_erect := ⟨inT 548 (by decide +kernel) rfl, inT 549 (by decide +kernel) rfl, inT 550 (by decide +kernel) rfl⟩
theorem lkL_36 : LkV RL 36 yX8_scrap := ⟨inT 650 (by decide +kernel) rfl, inT 651 (by decide +kernel) rfl, inT 652 (by decide +kernel) rfl⟩
theorem lkL_40 : LkV RL 40 yX8_test := ⟨inT 660 (by decide +kernel) rfl, inT 661 (by decide +kernel) rfl, inT 662 (by decide +kernel) rfl⟩
theorem lkL_43 : LkV RL 43 yX8_repair := ⟨inT 677 (by decide +kernel) rfl, inT 678 (by decide +kernel) rfl, inT 679 (by decide +kernel) rfl⟩
theorem lkL_46 : LkV RL 46 yX8_hole := ⟨inT 686 (by decide +kernel) rfl, inT 687 (by decide +kernel) rfl, inT 688 (by decide +kernel) rfl⟩
theorem lkL_50 : LkV RL 50 yX8_paint := ⟨inT 701 (by decide +kernel) rfl, inT 702 (by decide +kernel) rfl, inT 703 (by decide +kernel) rfl⟩
theorem lkL_53 : LkV RL 53 yX8_fit := ⟨inT 713 (by decide +kernel) rfl, inT 714 (by decide +kernel) rfl, inT 715 (by decide +kernel) rfl⟩
theorem lkL_56 : LkV RL 56 yX8_pipe := ⟨inT 722 (by decide +kernel) rfl, inT 723 (by decide +kernel) rfl, inT 724 (by decide +kernel) rfl⟩
theorem lkL_59 : LkV RL 59 yX8_launch := ⟨inT 779 (by decide +kernel) rfl, inT 780 (by decide +kernel) rfl, inT 781 (by decide +kernel) rfl⟩
theorem lkL_62 : LkV RL 62 yX8_whyNot := ⟨inT 788 (by decide +kernel) rfl, inT 789 (by decide +kernel) rfl, inT 790 (by decide +kernel) rfl⟩
theorem lkL_65 : LkV RL 65 yX8_told := ⟨inT 795 (by decide +kernel) rfl, inT 796 (by decide +kernel) rfl, inT 797 (by decide +kernel) rfl⟩
theorem lkL_68 : LkV RL 68 yX8_weld := ⟨inT 807 (by decide +kernel) rfl, inT 808 (by decide +kernel) rfl, inT 809 (by decide +kernel) rfl⟩
theorem lkL_71 : LkV RL 71 yX8_cell := ⟨inT 818 (by decide +kernel) rfl, inT 819 (by decide +kernel) rfl, inT 820 (by decide +kernel) rfl⟩
theorem lkL_74 : LkV RL 74 yX8_roomAt := ⟨inT 830 (by decide +kernel) rfl, inT 831 (by decide +kernel) rfl, inT 832 (by decide +kernel) rfl⟩
theorem lkL_77 : LkV RL 77 yX8_water := ⟨inT 838 (by decide +kernel) rfl, inT 839 (by decide +kernel) rfl, inT 840 (by decide +kernel) rfl⟩
theorem nwL_8 : Cond.classLink RL 8 RX8 ∈ TB := inT 19 (by decide +kernel) rfl
theorem lkL_80 : LkI RL 80 yX8_init := ⟨inT 21 (by decide +kernel) rfl, inT 22 (by decide +kernel) rfl, rfl⟩
theorem nwL_81 : Cond.classLink RL 81 RX9 ∈ TB := inT 842 (by decide +kernel) rfl
theorem lkL_83 : LkI RL 83 yX9_init := ⟨inT 844 (by decide +kernel) rfl, inT 845 (by decide +kernel) rfl, rfl⟩
theorem lkL_84 : LkS RL 84 yL_hall := ⟨inT 248 (by decide +kernel) rfl, inT 249 (by decide +kernel) rfl⟩
theorem lkL_89 : LkV RL 89 yX9_hall := ⟨inT 959 (by decide +kernel) rfl, inT 960 (by decide +kernel) rfl, inT 961 (by decide +kernel) rfl⟩
theorem lkL_90 : LkV RL 90 yX9_thrown := ⟨inT 955 (by decide +kernel) rfl, inT 956 (by decide +kernel) rfl, inT 957 (by decide +kernel) rfl⟩
theorem lkL_94 : LkS RL 94 yL_crane := ⟨inT 327 (by decide +kernel) rfl, inT 328 (by decide +kernel) rfl⟩
theorem lkL_96 : LkV RL 96 yX9_crane := ⟨inT 970 (by decide +kernel) rfl, inT 971 (by decide +kernel) rfl, inT 972 (by decide +kernel) rfl⟩
theorem lkL_97 : LkS RL 97 yL_welder := ⟨inT 355 (by decide +kernel) rfl, inT 356 (by decide +kernel) rfl⟩
theorem lkL_99 : LkV RL 99 yX9_welder := ⟨inT 977 (by decide +kernel) rfl, inT 978 (by decide +kernel) rfl, inT 979 (by decide +kernel) rfl⟩
theorem lkL_100 : LkV RL 100 yX8_draw := ⟨inT 145 (by decide +kernel) rfl, inT 146 (by decide +kernel) rfl, inT 147 (by decide +kernel) rfl⟩
theorem lkL_103 : LkV RL 103 yX9_draw := ⟨inT 984 (by decide +kernel) rfl, inT 985 (by decide +kernel) rfl, inT 986 (by decide +kernel) rfl⟩
theorem lkL_104 : LkS RL 104 yL_block := ⟨inT 364 (by decide +kernel) rfl, inT 365 (by decide +kernel) rfl⟩
theorem lkL_107 : LkV RL 107 yX9_block := ⟨inT 988 (by decide +kernel) rfl, inT 989 (by decide +kernel) rfl, inT 990 (by decide +kernel) rfl⟩
theorem lkL_108 : LkS RL 108 yL_join := ⟨inT 451 (by decide +kernel) rfl, inT 452 (by decide +kernel) rfl⟩
theorem lkL_111 : LkV RL 111 yX9_join := ⟨inT 999 (by decide +kernel) rfl, inT 1000 (by decide +kernel) rfl, inT 1001 (by decide +kernel) rfl⟩
theorem lkL_112 : LkS RL 112 yL_erect := ⟨inT 545 (by decide +kernel) rfl, inT 546 (by decide +kernel) rfl⟩
theorem lkL_114 : LkV RL 114 yX9_erect := ⟨inT 1020 (by decide +kernel) rfl, inT 1021 (by decide +kernel) rfl, inT 1022 (by decide +kernel) rfl⟩
theorem lkL_115 : LkS RL 115 yL_scrap := ⟨inT 647 (by decide +kernel) rfl, inT 648 (by decide +kernel) rfl⟩
theorem lkL_118 : LkV RL 118 yX9_scrap := ⟨inT 1044 (by decide +kernel) rfl, inT 1045 (by decide +kernel) rfl, inT 1046 (by decide +kernel) rfl⟩
theorem lkL_119 : LkS RL 119 yL_test := ⟨inT 657 (by decide +kernel) rfl, inT 658 (by decide +kernel) rfl⟩
theorem lkL_121 : LkV RL 121 yX9_test := ⟨inT 1052 (by decide +kernel) rfl, inT 1053 (by decide +kernel) rfl, inT 1054 (by decide +kernel) rfl⟩
theorem lkL_122 : LkS RL 122 yL_repair := ⟨inT 674 (by decide +kernel) rfl, inT 675 (by decide +kernel) rfl⟩
theorem lkL_124 : LkV RL 124 yX9_repair := ⟨inT 1064 (by decide +kernel) rfl, inT 1065 (by decide +kernel) rfl, inT 1066 (by decide +kernel) rfl⟩
theorem lkL_125 : LkS RL 125 yL_hole := ⟨inT 683 (by decide +kernel) rfl, inT 684 (by decide +kernel) rfl⟩
theorem lkL_128 : LkV RL 128 yX9_hole := ⟨inT 1072 (by decide +kernel) rfl, inT 1073 (by decide +kernel) rfl, inT 1074 (by decide +kernel) rfl⟩
theorem lkL_129 : LkS RL 129 yL_paint := ⟨inT 698 (by decide +kernel) rfl, inT 699 (by decide +kernel) rfl⟩
theorem lkL_131 : LkV RL 131 yX9_paint := ⟨inT 1080 (by decide +kernel) rfl, inT 1081 (by decide +kernel) rfl, inT 1082 (by decide +kernel) rfl⟩
theorem lkL_132 : LkS RL 132 yL_fit := ⟨inT 710 (by decide +kernel) rfl, inT 711 (by decide +kernel) rfl⟩
theorem lkL_134 : LkV RL 134 yX9_fit := ⟨inT 1084 (by decide +kernel) rfl, inT 1085 (by decide +kernel) rfl, inT 1086 (by decide +kernel) rfl⟩
theorem lkL_135 : LkS RL 135 yL_pipe := ⟨inT 719 (by decide +kernel) rfl, inT 720 (by decide +kernel) rfl⟩
theorem lkL_137 : LkV RL 137 yX9_pipe := ⟨inT 1088 (by decide +kernel) rfl, inT 1089 (by decide +kernel) rfl, inT 1090 (by decide +kernel) rfl⟩
theorem lkL_138 : LkS RL 138 yL_launch := ⟨inT 776 (by decide +kernel) rfl, inT 777 (by decide +kernel) rfl⟩
theorem lkL_140 : LkV RL 140 yX9_launch := ⟨inT 1104 (by decide +kernel) rfl, inT 1105 (by decide +kernel) rfl, inT 1106 (by decide +kernel) rfl⟩
theorem lkL_141 : LkV RL 141 yX8_blocks := ⟨inT 149 (by decide +kernel) rfl, inT 150 (by decide +kernel) rfl, inT 151 (by decide +kernel) rfl⟩
theorem lkL_144 : LkV RL 144 yX9_blocks := ⟨inT 1135 (by decide +kernel) rfl, inT 1136 (by decide +kernel) rfl, inT 1137 (by decide +kernel) rfl⟩
theorem lkL_145 : LkV RL 145 yX8_welds := ⟨inT 153 (by decide +kernel) rfl, inT 154 (by decide +kernel) rfl, inT 155 (by decide +kernel) rfl⟩
theorem lkL_148 : LkV RL 148 yX9_welds := ⟨inT 1143 (by decide +kernel) rfl, inT 1144 (by decide +kernel) rfl, inT 1145 (by decide +kernel) rfl⟩
theorem lkL_149 : LkV RL 149 yX8_isAfloat := ⟨inT 157 (by decide +kernel) rfl, inT 158 (by decide +kernel) rfl, inT 159 (by decide +kernel) rfl⟩
theorem lkL_153 : LkV RL 153 yX9_isAfloat := ⟨inT 1147 (by decide +kernel) rfl, inT 1148 (by decide +kernel) rfl, inT 1149 (by decide +kernel) rfl⟩
theorem lkL_154 : LkS RL 154 yL_whyNot := ⟨inT 785 (by decide +kernel) rfl, inT 786 (by decide +kernel) rfl⟩
theorem lkL_156 : LkV RL 156 yX9_whyNot := ⟨inT 1151 (by decide +kernel) rfl, inT 1152 (by decide +kernel) rfl, inT 1153 (by decide +kernel) rfl⟩
theorem lkL_157 : LkS RL 157 yL_told := ⟨inT 792 (by decide +kernel) rfl, inT 793 (by decide +kernel) rfl⟩
theorem lkL_159 : LkV RL 159 yX9_told := ⟨inT 1155 (by decide +kernel) rfl, inT 1156 (by decide +kernel) rfl, inT 1157 (by decide +kernel) rfl⟩
theorem lkL_160 : LkS RL 160 yL_weld := ⟨inT 804 (by decide +kernel) rfl, inT 805 (by decide +kernel) rfl⟩
theorem lkL_162 : LkV RL 162 yX9_weld := ⟨inT 1159 (by decide +kernel) rfl, inT 1160 (by decide +kernel) rfl, inT 1161 (by decide +kernel) rfl⟩
theorem lkL_163 : LkS RL 163 yL_cell := ⟨inT 815 (by decide +kernel) rfl, inT 816 (by decide +kernel) rfl⟩
theorem lkL_165 : LkV RL 165 yX9_cell := ⟨inT 1163 (by decide +kernel) rfl, inT 1164 (by decide +kernel) rfl, inT 1165 (by decide +kernel) rfl⟩
theorem lkL_166 : LkS RL 166 yL_roomAt := ⟨inT 827 (by decide +kernel) rfl, inT 828 (by decide +kernel) rfl⟩
theorem lkL_168 : LkV RL 168 yX9_roomAt := ⟨inT 1167 (by decide +kernel) rfl, inT 1168 (by decide +kernel) rfl, inT 1169 (by decide +kernel) rfl⟩
theorem lkL_169 : LkV RL 169 yX8_tons := ⟨inT 161 (by decide +kernel) rfl, inT 162 (by decide +kernel) rfl, inT 163 (by decide +kernel) rfl⟩
theorem lkL_172 : LkV RL 172 yX9_tons := ⟨inT 1171 (by decide +kernel) rfl, inT 1172 (by decide +kernel) rfl, inT 1173 (by decide +kernel) rfl⟩
theorem lkL_173 : LkV RL 173 yX8_tonsAnew := ⟨inT 165 (by decide +kernel) rfl, inT 166 (by decide +kernel) rfl, inT 167 (by decide +kernel) rfl⟩
theorem lkL_176 : LkV RL 176 yX9_tonsAnew := ⟨inT 1175 (by decide +kernel) rfl, inT 1176 (by decide +kernel) rfl, inT 1177 (by decide +kernel) rfl⟩
theorem lkL_177 : LkV RL 177 yX8_centre := ⟨inT 185 (by decide +kernel) rfl, inT 186 (by decide +kernel) rfl, inT 187 (by decide +kernel) rfl⟩
theorem lkL_180 : LkV RL 180 yX9_centre := ⟨inT 1179 (by decide +kernel) rfl, inT 1180 (by decide +kernel) rfl, inT 1181 (by decide +kernel) rfl⟩
theorem lkL_181 : LkV RL 181 yX8_draught := ⟨inT 193 (by decide +kernel) rfl, inT 194 (by decide +kernel) rfl, inT 195 (by decide +kernel) rfl⟩
theorem lkL_185 : LkV RL 185 yX9_draught := ⟨inT 1183 (by decide +kernel) rfl, inT 1184 (by decide +kernel) rfl, inT 1185 (by decide +kernel) rfl⟩
theorem lkL_186 : LkS RL 186 yL_water := ⟨inT 835 (by decide +kernel) rfl, inT 836 (by decide +kernel) rfl⟩
theorem lkL_188 : LkV RL 188 yX9_water := ⟨inT 1187 (by decide +kernel) rfl, inT 1188 (by decide +kernel) rfl, inT 1189 (by decide +kernel) rfl⟩
theorem lkL_189 : LkV RL 189 yX8_firstHour := ⟨inT 202 (by decide +kernel) rfl, inT 203 (by decide +kernel) rfl, inT 204 (by decide +kernel) rfl⟩
theorem lkL_192 : LkV RL 192 yX9_firstHour := ⟨inT 1191 (by decide +kernel) rfl, inT 1192 (by decide +kernel) rfl, inT 1193 (by decide +kernel) rfl⟩
theorem lkL_193 : LkV RL 193 yX8_money := ⟨inT 236 (by decide +kernel) rfl, inT 237 (by decide +kernel) rfl, inT 238 (by decide +kernel) rfl⟩
theorem lkL_196 : LkV RL 196 yX9_money := ⟨inT 1195 (by decide +kernel) rfl, inT 1196 (by decide +kernel) rfl, inT 1197 (by decide +kernel) rfl⟩
theorem lkL_197 : LkV RL 197 yX8_moneyAnew := ⟨inT 240 (by decide +kernel) rfl, inT 241 (by decide +kernel) rfl, inT 242 (by decide +kernel) rfl⟩
theorem lkL_200 : LkV RL 200 yX9_moneyAnew := ⟨inT 1199 (by decide +kernel) rfl, inT 1200 (by decide +kernel) rfl, inT 1201 (by decide +kernel) rfl⟩
theorem isX0 : Cond.instantiable RX0 10 ∈ TB := inT 394 (by decide +kernel) rfl
theorem itX0 : Cond.initialized RX0 ∈ TB := inT 14 (by decide +kernel) rfl
theorem isX1 : Cond.instantiable RX1 3 ∈ TB := inT 34 (by decide +kernel) rfl
theorem itX1 : Cond.initialized RX1 ∈ TB := inT 2 (by decide +kernel) rfl
theorem isX2 : Cond.instantiable RX2 3 ∈ TB := inT 83 (by decide +kernel) rfl
theorem itX2 : Cond.initialized RX2 ∈ TB := inT 6 (by decide +kernel) rfl
theorem isX3 : Cond.instantiable RX3 1 ∈ TB := inT 762 (by decide +kernel) rfl
theorem itX3 : Cond.initialized RX3 ∈ TB := inT 18 (by decide +kernel) rfl
theorem isX4 : Cond.instantiable RX4 7 ∈ TB := inT 604 (by decide +kernel) rfl
theorem itX4 : Cond.initialized RX4 ∈ TB := inT 17 (by decide +kernel) rfl
theorem isX5 : Cond.instantiable RX5 1 ∈ TB := inT 54 (by decide +kernel) rfl
theorem itX5 : Cond.initialized RX5 ∈ TB := inT 3 (by decide +kernel) rfl
theorem isX6 : Cond.instantiable RX6 5 ∈ TB := inT 487 (by decide +kernel) rfl
theorem itX6 : Cond.initialized RX6 ∈ TB := inT 15 (by decide +kernel) rfl
theorem isX7 : Cond.instantiable RX7 2 ∈ TB := inT 64 (by decide +kernel) rfl
theorem itX7 : Cond.initialized RX7 ∈ TB := inT 4 (by decide +kernel) rfl
theorem isX8 : Cond.instantiable RX8 15 ∈ TB := inT 20 (by decide +kernel) rfl
theorem itX8 : Cond.initialized RX8 ∈ TB := inT 1 (by decide +kernel) rfl
theorem isX9 : Cond.instantiable RX9 35 ∈ TB := inT 843 (by decide +kernel) rfl
theorem itX9 : Cond.initialized RX9 ∈ TB := inT 7 (by decide +kernel) rfl
theorem ac_int : Cond.arrayClass .int ∈ TB := inT 81 (by decide +kernel) rfl
theorem ac_boolean : Cond.arrayClass .boolean ∈ TB := inT 954 (by decide +kernel) rfl
theorem ac_long : Cond.arrayClass .long ∈ TB := inT 1203 (by decide +kernel) rfl
theorem ob_i : Cond.instanceMethod Lib.objectInit ∈ TB := inT 25 (by decide +kernel) rfl
theorem ob_c : Cond.code Lib.objectInit ⟨#[0xb1]⟩ 1 none ∈ TB := inT 26 (by decide +kernel) rfl
theorem ma_c_max : Cond.code Lib.Math.max.name Lib.Math.max.code 2 (some .int) ∈ TB := inT 229 (by decide +kernel) rfl
theorem ma_s_max : Cond.static Lib.Math.max.name ∈ TB := inT 228 (by decide +kernel) rfl
theorem ma_c_abs : Cond.code Lib.Math.abs.name Lib.Math.abs.code 1 (some .int) ∈ TB := inT 583 (by decide +kernel) rfl
theorem ma_s_abs : Cond.static Lib.Math.abs.name ∈ TB := inT 582 (by decide +kernel) rfl
theorem ma_i : Cond.initialized "java/lang/Math" ∈ TB := inT 16 (by decide +kernel) rfl
theorem taX8_128 : ∀ t ∈ vx_atS RX8 128 "java/lang/IllegalStateException" exN, t ∈ TB ∨ t ∈ NWl := by decide +kernel
theorem toX8_128 : ∀ t ∈ Cond.classLink RX8 124 "java/lang/IllegalStateException" :: Cond.initialized "java/lang/IllegalStateException" :: vx_atS RX8 128 "java/lang/IllegalStateException" exN, vx_ot t = true := by decide +kernel
theorem thX8_126 : TH RX8 "java/lang/IllegalStateException" 124 126 128 := ⟨by decide +kernel, inT 378 (by decide +kernel) rfl, inT 13 (by decide +kernel) rfl, ⟨_, List.mem_of_getElem? (i := 7) rfl⟩, taX8_128, toX8_128⟩
theorem thX8_152 : TH RX8 "java/lang/IllegalStateException" 124 152 128 := ⟨by decide +kernel, inT 378 (by decide +kernel) rfl, inT 13 (by decide +kernel) rfl, ⟨_, List.mem_of_getElem? (i := 9) rfl⟩, taX8_128, toX8_128⟩
theorem thX8_191 : TH RX8 "java/lang/IllegalStateException" 124 191 128 := ⟨by decide +kernel, inT 378 (by decide +kernel) rfl, inT 13 (by decide +kernel) rfl, ⟨_, List.mem_of_getElem? (i := 10) rfl⟩, taX8_128, toX8_128⟩
theorem thX8_226 : TH RX8 "java/lang/IllegalStateException" 124 226 128 := ⟨by decide +kernel, inT 378 (by decide +kernel) rfl, inT 13 (by decide +kernel) rfl, ⟨_, List.mem_of_getElem? (i := 12) rfl⟩, taX8_128, toX8_128⟩
theorem thX8_244 : TH RX8 "java/lang/IllegalStateException" 124 244 128 := ⟨by decide +kernel, inT 378 (by decide +kernel) rfl, inT 13 (by decide +kernel) rfl, ⟨_, List.mem_of_getElem? (i := 14) rfl⟩, taX8_128, toX8_128⟩
theorem thX8_254 : TH RX8 "java/lang/IllegalStateException" 124 254 128 := ⟨by decide +kernel, inT 378 (by decide +kernel) rfl, inT 13 (by decide +kernel) rfl, ⟨_, List.mem_of_getElem? (i := 16) rfl⟩, taX8_128, toX8_128⟩
theorem thX8_275 : TH RX8 "java/lang/IllegalStateException" 124 275 128 := ⟨by decide +kernel, inT 378 (by decide +kernel) rfl, inT 13 (by decide +kernel) rfl, ⟨_, List.mem_of_getElem? (i := 18) rfl⟩, taX8_128, toX8_128⟩
theorem thX8_283 : TH RX8 "java/lang/IllegalStateException" 124 283 128 := ⟨by decide +kernel, inT 378 (by decide +kernel) rfl, inT 13 (by decide +kernel) rfl, ⟨_, List.mem_of_getElem? (i := 19) rfl⟩, taX8_128, toX8_128⟩
theorem thX8_291 : TH RX8 "java/lang/IllegalStateException" 124 291 128 := ⟨by decide +kernel, inT 378 (by decide +kernel) rfl, inT 13 (by decide +kernel) rfl, ⟨_, List.mem_of_getElem? (i := 20) rfl⟩, taX8_128, toX8_128⟩
theorem thX8_302 : TH RX8 "java/lang/IllegalStateException" 124 302 128 := ⟨by decide +kernel, inT 378 (by decide +kernel) rfl, inT 13 (by decide +kernel) rfl, ⟨_, List.mem_of_getElem? (i := 22) rfl⟩, taX8_128, toX8_128⟩
theorem thX8_308 : TH RX8 "java/lang/IllegalStateException" 124 308 128 := ⟨by decide +kernel, inT 378 (by decide +kernel) rfl, inT 13 (by decide +kernel) rfl, ⟨_, List.mem_of_getElem? (i := 23) rfl⟩, taX8_128, toX8_128⟩
theorem thX8_328 : TH RX8 "java/lang/IllegalStateException" 124 328 128 := ⟨by decide +kernel, inT 378 (by decide +kernel) rfl, inT 13 (by decide +kernel) rfl, ⟨_, List.mem_of_getElem? (i := 25) rfl⟩, taX8_128, toX8_128⟩
theorem taX8_91 : ∀ t ∈ vx_atS RX8 91 "java/lang/IllegalArgumentException" exN, t ∈ TB ∨ t ∈ NWl := by decide +kernel
theorem toX8_91 : ∀ t ∈ Cond.classLink RX8 87 "java/lang/IllegalArgumentException" :: Cond.initialized "java/lang/IllegalArgumentException" :: vx_atS RX8 91 "java/lang/IllegalArgumentException" exN, vx_ot t = true := by decide +kernel
theorem thX8_103 : TH RX8 "java/lang/IllegalArgumentException" 87 103 91 := ⟨by decide +kernel, inT 259 (by decide +kernel) rfl, inT 11 (by decide +kernel) rfl, ⟨_, List.mem_of_getElem? (i := 2) rfl⟩, taX8_91, toX8_91⟩
theorem thX8_111 : TH RX8 "java/lang/IllegalArgumentException" 87 111 91 := ⟨by decide +kernel, inT 259 (by decide +kernel) rfl, inT 11 (by decide +kernel) rfl, ⟨_, List.mem_of_getElem? (i := 4) rfl⟩, taX8_91, toX8_91⟩
theorem thX8_118 : TH RX8 "java/lang/IllegalArgumentException" 87 118 91 := ⟨by decide +kernel, inT 259 (by decide +kernel) rfl, inT 11 (by decide +kernel) rfl, ⟨_, List.mem_of_getElem? (i := 6) rfl⟩, taX8_91, toX8_91⟩
theorem thX8_300 : TH RX8 "java/lang/IllegalArgumentException" 87 300 91 := ⟨by decide +kernel, inT 259 (by decide +kernel) rfl, inT 11 (by decide +kernel) rfl, ⟨_, List.mem_of_getElem? (i := 21) rfl⟩, taX8_91, toX8_91⟩
theorem thX8_316 : TH RX8 "java/lang/IllegalArgumentException" 87 316 91 := ⟨by decide +kernel, inT 259 (by decide +kernel) rfl, inT 11 (by decide +kernel) rfl, ⟨_, List.mem_of_getElem? (i := 24) rfl⟩, taX8_91, toX8_91⟩
theorem thX8_330 : TH RX8 "java/lang/IllegalArgumentException" 87 330 91 := ⟨by decide +kernel, inT 259 (by decide +kernel) rfl, inT 11 (by decide +kernel) rfl, ⟨_, List.mem_of_getElem? (i := 26) rfl⟩, taX8_91, toX8_91⟩
theorem thX8_89 : TH RX8 "java/lang/IllegalArgumentException" 87 89 91 := ⟨by decide +kernel, inT 259 (by decide +kernel) rfl, inT 11 (by decide +kernel) rfl, ⟨_, List.mem_of_getElem? (i := 0) rfl⟩, taX8_91, toX8_91⟩
theorem taX8_102 : ∀ t ∈ vx_atS RX8 102 "java/lang/IndexOutOfBoundsException" exN, t ∈ TB ∨ t ∈ NWl := by decide +kernel
theorem toX8_102 : ∀ t ∈ Cond.classLink RX8 98 "java/lang/IndexOutOfBoundsException" :: Cond.initialized "java/lang/IndexOutOfBoundsException" :: vx_atS RX8 102 "java/lang/IndexOutOfBoundsException" exN, vx_ot t = true := by decide +kernel
theorem thX8_100 : TH RX8 "java/lang/IndexOutOfBoundsException" 98 100 102 := ⟨by decide +kernel, inT 338 (by decide +kernel) rfl, inT 12 (by decide +kernel) rfl, ⟨_, List.mem_of_getElem? (i := 1) rfl⟩, taX8_102, toX8_102⟩
theorem thX8_109 : TH RX8 "java/lang/IndexOutOfBoundsException" 98 109 102 := ⟨by decide +kernel, inT 338 (by decide +kernel) rfl, inT 12 (by decide +kernel) rfl, ⟨_, List.mem_of_getElem? (i := 3) rfl⟩, taX8_102, toX8_102⟩
theorem thX8_116 : TH RX8 "java/lang/IndexOutOfBoundsException" 98 116 102 := ⟨by decide +kernel, inT 338 (by decide +kernel) rfl, inT 12 (by decide +kernel) rfl, ⟨_, List.mem_of_getElem? (i := 5) rfl⟩, taX8_102, toX8_102⟩
theorem thX8_143 : TH RX8 "java/lang/IndexOutOfBoundsException" 98 143 102 := ⟨by decide +kernel, inT 338 (by decide +kernel) rfl, inT 12 (by decide +kernel) rfl, ⟨_, List.mem_of_getElem? (i := 8) rfl⟩, taX8_102, toX8_102⟩
theorem thX8_224 : TH RX8 "java/lang/IndexOutOfBoundsException" 98 224 102 := ⟨by decide +kernel, inT 338 (by decide +kernel) rfl, inT 12 (by decide +kernel) rfl, ⟨_, List.mem_of_getElem? (i := 11) rfl⟩, taX8_102, toX8_102⟩
theorem thX8_236 : TH RX8 "java/lang/IndexOutOfBoundsException" 98 236 102 := ⟨by decide +kernel, inT 338 (by decide +kernel) rfl, inT 12 (by decide +kernel) rfl, ⟨_, List.mem_of_getElem? (i := 13) rfl⟩, taX8_102, toX8_102⟩
theorem thX8_249 : TH RX8 "java/lang/IndexOutOfBoundsException" 98 249 102 := ⟨by decide +kernel, inT 338 (by decide +kernel) rfl, inT 12 (by decide +kernel) rfl, ⟨_, List.mem_of_getElem? (i := 15) rfl⟩, taX8_102, toX8_102⟩
theorem thX8_268 : TH RX8 "java/lang/IndexOutOfBoundsException" 98 268 102 := ⟨by decide +kernel, inT 338 (by decide +kernel) rfl, inT 12 (by decide +kernel) rfl, ⟨_, List.mem_of_getElem? (i := 17) rfl⟩, taX8_102, toX8_102⟩
theorem thX8_336 : TH RX8 "java/lang/IndexOutOfBoundsException" 98 336 102 := ⟨by decide +kernel, inT 338 (by decide +kernel) rfl, inT 12 (by decide +kernel) rfl, ⟨_, List.mem_of_getElem? (i := 27) rfl⟩, taX8_102, toX8_102⟩
theorem thX8_339 : TH RX8 "java/lang/IndexOutOfBoundsException" 98 339 102 := ⟨by decide +kernel, inT 338 (by decide +kernel) rfl, inT 12 (by decide +kernel) rfl, ⟨_, List.mem_of_getElem? (i := 28) rfl⟩, taX8_102, toX8_102⟩
end

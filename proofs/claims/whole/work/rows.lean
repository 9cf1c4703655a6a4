section
/-! ===== BEGIN words of one list among another's, by their places ===== -/
theorem goodIn_r {big : List Cond} (ws : List Cond) (ps : List Nat) (hp : ws = ps.filterMap (fun i => big[i]?)) (h : ws.all goodWord = true) : GoodIn big ws := by
  intro w hw
  have h1 := List.all_eq_true.mp h w hw
  rw [hp] at hw
  obtain ⟨i, -, hi⟩ := List.mem_filterMap.mp hw
  have hm : w ∈ big := by first | exact List.mem_of_getElem? hi | exact List.getElem?_mem hi
  exact ⟨hm, good_of_word h1⟩
theorem goodIn_app {big a b : List Cond} (ha : GoodIn big a) (hb : GoodIn big b) : GoodIn big (a ++ b) := fun w h => (List.mem_append.mp h).elim (ha w) (hb w)
theorem goodIn_ca {big a b : List Cond} {c : Cond} (ha : GoodIn big (c :: a)) (hb : GoodIn big b) : GoodIn big (c :: (a ++ b)) := fun w h => (List.mem_cons.mp h).elim (fun e => ha w (List.mem_cons.mpr (Or.inl e))) (fun h => (List.mem_append.mp h).elim (fun h => ha w (List.mem_cons.mpr (Or.inr h))) (hb w))
theorem goodIn_sub {big ws : List Cond} (hm : ∀ w ∈ ws, w ∈ big) (h : ws.all goodWord = true) : GoodIn big ws := fun w hw => ⟨hm w hw, good_of_word (List.all_eq_true.mp h w hw)⟩
/-! ===== END ===== -/

/-! ===== BEGIN exceptions that leave a method, and their catching by the caller (launches without stack traces) ===== -/
section VXA
/-! The laws vx_back, vx_callV, vx_callS, vx_callSW, vx_throw0, vx_throwS follow proofs of the library, with one case more: JvmDerived/Free/Laws.lean (Back.of_free), Shelf42/LK1.lean (callV, callS), Shelf/KitTraced.lean (throwNew0V, throwNewS). -/
/-- where a method has thrown q: the class by its name, the cell, what was written, the world -/
def vx_T (XC : String → State → State → Prop) (st : State) (q : Addr) (t : State) (mc ms : Nat) (free : Addr → Prop) : Prop :=
  ∃ (E : String) (ce : Cell) (L : List Loc), XC E st t ∧ t.heap[q]? = some ce ∧ ce.vm = .none ∧ st.vm.findClass E = some ce.cls ∧ st.WarmedH t.vm ∧ st.sameButNew ({ t with vm := st.vm } : State) L mc ms ∧ ∀ z ∈ L, free z.base
def vx_Q (Qc : Array Value → State → Outcome → State → Prop) (XC : String → State → State → Prop) (mc ms : Nat) (free : Addr → Prop) : Array Value → State → Outcome → State → Prop := fun a st o t =>
  (Qc a st o t ∧ ∃ L, FrameEnd st o t L mc ms ∧ ∀ q ∈ L, free q.base) ∨ ∃ q, o = .threw q ∧ vx_T XC st q t mc ms free
/-- a callee that returns or throws -/
def vx_Met (l : Launch) (y : MethodName) (ws : List Cond) (rm : Room) (Pc : Array Value → State → Prop) (Qc : Array Value → State → Outcome → State → Prop) (XC : String → State → State → Prop) (mc ms : Nat) (free : Addr → Prop) : Prop :=
  MetFree l y (headSpec ws rm) Pc (fun _ _ _ _ _ => True) (vx_Q Qc XC mc ms free)
def vx_Post (XC : String → State → State → Prop) (mc ms : Nat) (free : Addr → Prop) : Pt → Array Value → Addr → Pt → Prop := fun A a q B =>
  ∃ (g : JFrame) (mk : MethodId) (t : State) (L : List Loc) (E : String) (ce : Cell), B.U.heap = t.heap ∧ B.U.vm = t.vm ∧ XC E (A.U.calling g mk a) t ∧ t.heap[q]? = some ce ∧ ce.vm = .none ∧ A.U.vm.findClass E = some ce.cls ∧ B.locs = A.locs ++ L ∧ (∀ z ∈ L, free z.base) ∧ B.cells = A.cells + mc ∧ B.slots = A.slots + ms
def vx_Back (l : Launch) (R : Room) (p : Program) (e : Env) (below : List Frame) (s : State) (sargs : Array Value) (y : MethodName) (len W9 : Nat)
    (Pre : Pt → Array Value → Prop) (Post : Pt → Array Value → Option Value → Pt → Prop) (PostX : Pt → Array Value → Addr → Pt → Prop) : Prop :=
  ∀ (m : MethodId) (meth : Method) (c : Code) (A : Pt) (g : JFrame) (ig : Instr) (mk : MethodId) (a : Array Value),
    Stand p l e R s m sargs below meth c A.U A.locs A.cells A.slots → g.method = m → g.locals.size = c.maxLocals → decode c.code g.pc = .ok (ig, len) →
    2 * g.monitorRoom + (g.stack.map fun v => v.category).sum ≤ W9 → A.U.methodNamed? y = some mk → Pre A a →
    (∃ (v : Option Value) (B : Pt), Stand p l e R s m sargs below meth c B.U B.locs B.cells B.slots ∧ Post A a v B ∧
      Steps p.tables e below (doInvoke e (A.U.setTop g) [] mk a).1 (B.U.setTop { g with pc := g.pc + len, stack := v.toList ++ g.stack })) ∨
    (∃ (q : Addr) (B : Pt), Stand p l e R s m sargs below meth c B.U B.locs B.cells B.slots ∧ PostX A a q B ∧
      Steps p.tables e below (doInvoke e (A.U.setTop g) [] mk a).1 ((B.U.setTop g).pushFrame (.throwing q)))
section Payer
variable {l : Launch} {R : Room} {p : Program} {e : Env} {below : List Frame} {s : State} {sargs : Array Value} {y : MethodName} {len W9 : Nat}
theorem vx_back {ws : List Cond} {rm : Room} {Pc : Array Value → State → Prop} {Qc : Array Value → State → Outcome → State → Prop} {XC : String → State → State → Prop} {mc ms : Nat} {free : Addr → Prop} {bytes : ByteArray} {maxL : Nat} {ret : Option FieldType}
    (hM : vx_Met l y ws rm Pc Qc XC mc ms free) (hblind : FrameBlind Pc) (hrc : rm.cells = mc) (hrs : rm.slots = ms)
    (hframes : rm.frames + 1 ≤ R.frames) (hlocals : W9 + (maxL + 11) + rm.locals ≤ R.locals)
    (hws : ∀ w ∈ ws, ∀ a' U, s.WarmedH U.vm → w.before a' U = true) (hcode : Cond.code y bytes maxL ret ∈ ws) (hinit : ∀ a' U, s.WarmedH U.vm → (Cond.initialized y.cls).before a' U = true) :
    vx_Back l R p e below s sargs y len W9 (PreOf R mc ms Pc) (PostOf Qc mc ms free) (vx_Post XC mc ms free) := by
  intro m meth c A g ig mk a X hg hsize hdg hW hn hp
  have h1 : (headSpec ws rm).pre.before a A.U = true := atoms_intro fun w hw => hws w hw _ _ X.warmed
  have h2 : (Cond.code y bytes maxL ret).before a A.U = true := hws _ hcode _ _ X.warmed
  have h3 : (Cond.initialized y.cls).before a A.U = true := hinit _ _ X.warmed
  have h4 : A.cells + (headSpec ws rm).room.cells ≤ R.cells := by rw [show (headSpec ws rm).room.cells = mc from hrc]; exact hp.1
  have h5 : A.slots + (headSpec ws rm).room.slots ≤ R.slots := by rw [show (headSpec ws rm).room.slots = ms from hrs]; exact hp.2.1
  have hPc : Pc a (A.U.calling g mk a) := hblind _ _ _ _ hp.2.2
  obtain ⟨U, Ls, c0, s0⟩ := A
  dsimp only [Pt.U, Pt.locs, Pt.cells, Pt.slots] at h1 h2 h3 h4 h5 X hn hPc ⊢
  obtain ⟨methY, cY, hmY, hcY, -, hlY, -, -, -, -⟩ := Cond.code_spec hn h2
  obtain ⟨kY, hkY, -⟩ := className_of_methodNamed hn
  have hinitY : kY.init = .initialized := Cond.initialized_spec (findClass_of_methodNamed hn) hkY h3
  have h : At U g.method c below := by rw [hg]; exact X.here
  have hlocals9 : W9 + (maxL + 11) + (headSpec ws rm).room.locals ≤ R.locals := hlocals
  have happ : (headSpec ws rm).appliesLoose y e.platform (U.calling g mk a) = true :=
    Spec.appliesLoose_calling (g := g) h hdg hn hkY hinitY
      (X.room_calling (g := g) (R' := (headSpec ws rm).room) hsize hmY hcY hframes (by rw [hlY]; omega) h4 h5) h1
  obtain ⟨mid, hmid⟩ := h.above
  have hfr : (U.setTop g).frames = (.java g :: mid) ++ below := by rw [State.frames_setTop' g h.top, hmid]; rfl
  obtain ⟨o, s₂, hsteps, -, hend, hq⟩ := Steps.callFree hM p X.admits X.cas X.clock (acts := []) hfr happ hPc trivial
  have hq' : vx_Q Qc XC mc ms free a (U.calling g mk a) o s₂ := hq
  rw [State.frames_setTop' g h.top] at hend
  obtain ⟨g₀, hg0⟩ := Option.isSome_iff_exists.mp h.top
  obtain ⟨r, hr⟩ := State.topJava?_eq_some.mp hg0
  have hr' : (({ U with heap := s₂.heap, slotsUsed := s₂.slotsUsed } : State).setVm s₂.vm).frames = .java g₀ :: r := hr
  rcases hq' with ⟨hqc, L, hfe, hL⟩ | ⟨q, rfl, E, ce, L, hx, hce, hcv, hcl, hW₂, hsm, hL⟩
  · obtain ⟨⟨v, rfl⟩, hW₂, e2, q2, q3, q4, q5, q6⟩ := id hfe
    have e3 : s₂ = ({ (U.calling g mk a).setFrames s₂.frames with heap := s₂.heap, slotsUsed := s₂.slotsUsed } : State).setVm s₂.vm := by
      have : s₂ = ({ s₂ with vm := (U.calling g mk a).vm } : State).setVm s₂.vm := rfl
      rw [e2] at this
      exact this
    obtain ⟨c₂, i₂, len₂, hc₂, hd₂, hf₂⟩ := hend
    have hW' : U.WarmedH s₂.vm := hW₂
    have hcc : c₂ = c := by
      have h1 : s₂.code? g.method = U.code? g.method := by
        rw [State.code?_eq, State.code?_eq, hW'.alike.method?]
      exact Option.some.inj (hc₂.symm.trans (h1.trans h.code))
    subst hcc
    have hlen : len₂ = len := by rw [hdg] at hd₂; cases hd₂; rfl
    subst hlen
    have hs₂ : s₂ = (({ U with heap := s₂.heap, slotsUsed := s₂.slotsUsed } : State).setVm s₂.vm).setTop { g with pc := g.pc + len₂, stack := v.toList ++ g.stack } := by
      refine e3.trans ?_
      rw [hf₂, State.calling_eq h.top, State.setFrames_setFrames, State.setTop_of_frames _ hr', hr]
      rfl
    have hsame : U.sameButNew ({ U with heap := s₂.heap, slotsUsed := s₂.slotsUsed } : State) L mc ms := by
      refine ⟨?_, q2, q3, q4, q5, q6⟩
      obtain ⟨t, ht, -⟩ := State.frames_cons hr
      show ({ U with heap := s₂.heap, slotsUsed := s₂.slotsUsed } : State) = { U.setFrames U.frames with heap := s₂.heap, slotsUsed := s₂.slotsUsed }
      rw [State.setFrames_self ht]
    subst hg
    refine Or.inl ⟨v, ⟨(({ U with heap := s₂.heap, slotsUsed := s₂.slotsUsed } : State).setVm s₂.vm), Ls ++ L, c0 + mc, s0 + ms⟩,
      ⟨X.admits, X.cas, X.clock, X.frames, X.room, X.hears, X.method, X.code, (X.here.setHeapUsed s₂.heap s₂.slotsUsed).setVm hW'.alike, X.tail, State.WarmedH.trans X.warmed hW', X.limits, X.bytes, X.same.trans (hsame.setVm s.vm)⟩,
      ⟨g, mk, s₂, L, rfl, rfl, hqc, rfl, hL, rfl, rfl⟩, ?_⟩
    show Steps p.tables e below _ ((({ U with heap := s₂.heap, slotsUsed := s₂.slotsUsed } : State).setVm s₂.vm).setTop { g with pc := g.pc + len₂, stack := v.toList ++ g.stack })
    rw [← hs₂]
    exact hsteps
  · obtain ⟨e2, q2, q3, q4, q5, q6⟩ := id hsm
    have e3 : s₂ = ({ (U.calling g mk a).setFrames s₂.frames with heap := s₂.heap, slotsUsed := s₂.slotsUsed } : State).setVm s₂.vm := by
      have : s₂ = ({ s₂ with vm := (U.calling g mk a).vm } : State).setVm s₂.vm := rfl
      rw [e2] at this
      exact this
    have hf₂ : s₂.frames = .throwing q :: .java g :: U.frames.tail := hend
    have hW' : U.WarmedH s₂.vm := hW₂
    have hs₂ : s₂ = ((({ U with heap := s₂.heap, slotsUsed := s₂.slotsUsed } : State).setVm s₂.vm).setTop g).pushFrame (.throwing q) := by
      refine e3.trans ?_
      rw [hf₂, State.calling_eq h.top, State.setFrames_setFrames, State.pushFrame, State.frames_setTop _ hr', State.setTop_of_frames _ hr', State.setFrames_setFrames, hr]
      rfl
    have hsame : U.sameButNew ({ U with heap := s₂.heap, slotsUsed := s₂.slotsUsed } : State) L mc ms := by
      refine ⟨?_, q2, q3, q4, q5, q6⟩
      obtain ⟨t, ht, -⟩ := State.frames_cons hr
      show ({ U with heap := s₂.heap, slotsUsed := s₂.slotsUsed } : State) = { U.setFrames U.frames with heap := s₂.heap, slotsUsed := s₂.slotsUsed }
      rw [State.setFrames_self ht]
    subst hg
    refine Or.inr ⟨q, ⟨(({ U with heap := s₂.heap, slotsUsed := s₂.slotsUsed } : State).setVm s₂.vm), Ls ++ L, c0 + mc, s0 + ms⟩,
      ⟨X.admits, X.cas, X.clock, X.frames, X.room, X.hears, X.method, X.code, (X.here.setHeapUsed s₂.heap s₂.slotsUsed).setVm hW'.alike, X.tail, State.WarmedH.trans X.warmed hW', X.limits, X.bytes, X.same.trans (hsame.setVm s.vm)⟩,
      ⟨g, mk, s₂, L, E, ce, rfl, rfl, hx, hce, hcv, hcl, rfl, hL, rfl, rfl⟩, ?_⟩
    show Steps p.tables e below _ (((({ U with heap := s₂.heap, slotsUsed := s₂.slotsUsed } : State).setVm s₂.vm).setTop g).pushFrame (.throwing q))
    rw [← hs₂]
    exact hsteps
end Payer
section Calls
variable {p : Program} {l : Launch} {e : Env} {R : Room} {s : State} {m : MethodId} {args : Array Value} {below : List Frame} {meth : Method} {c : Code} {T : State} {locs : List Loc} {cells slots : Nat}
theorem vx_callV (X : Stand p l e R s m args below meth c T locs cells slots) (hexec : p.tables.exec = Jvm.exec) {own C : String} {index : Nat} {y : MethodName} {bytes : ByteArray} {maxL : Nat} {ret : Option FieldType}
    (hown : s.vm.findClass own = some m.cls) (hlink : (Cond.methodLink own index y).before args s = true) (hinst : (Cond.instanceMethod y).before args s = true) (hsel : (Cond.selects C y y).before args s = true)
    (hcode : (Cond.code y bytes maxL ret).before args s = true) (hy : y.cls ≠ "java/lang/invoke/MethodHandle" ∧ y.cls ≠ "java/lang/invoke/VarHandle")
    {W9 : Nat} {Pre : Pt → Array Value → Prop} {Post : Pt → Array Value → Option Value → Pt → Prop} {PostX : Pt → Array Value → Addr → Pt → Prop} (hK : vx_Back l R p e below s args y 3 W9 Pre Post PostX)
    {b : Addr} {cellB : Cell} (hcell : T.heap[b]? = some cellB) (hobj : cellB.vm.isStatics = false) (hcls : s.vm.findClass C = some cellB.cls)
    {g : JFrame} (hg : g.method = m) (hsize : g.locals.size = c.maxLocals) {argsL rest : List Value} (hlen : ∀ sig, parseMethodDescriptor y.desc = some sig → argsL.length = sig.parameters.length)
    (hstack : g.stack = argsL.reverse ++ .ref b :: rest) (hW : 2 * g.monitorRoom + (rest.map fun v => v.category).sum ≤ W9) (hdg : decode c.code g.pc = .ok (.invokevirtual index, 3))
    (hpre : ∀ vm₁, s.WarmedH vm₁ → Pre ⟨T.setVm vm₁, locs, cells, slots⟩ (Value.ref b :: argsL).toArray) :
    (∃ (v : Option Value) (vm₁ : Vm) (B : Pt), s.WarmedH vm₁ ∧ Stand p l e R s m args below meth c B.U B.locs B.cells B.slots ∧ Post ⟨T.setVm vm₁, locs, cells, slots⟩ (Value.ref b :: argsL).toArray v B ∧
      ∀ target, Steps p.tables e below (B.U.setTop { g with pc := g.pc + 3, stack := v.toList ++ rest }) target → Steps p.tables e below (T.setTop g) target) ∨
    (∃ (q : Addr) (vm₁ : Vm) (B : Pt), s.WarmedH vm₁ ∧ Stand p l e R s m args below meth c B.U B.locs B.cells B.slots ∧ PostX ⟨T.setVm vm₁, locs, cells, slots⟩ (Value.ref b :: argsL).toArray q B ∧
      Steps p.tables e below (T.setTop g) ((B.U.setTop { g with stack := rest }).pushFrame (.throwing q))) := by
  obtain ⟨mk, methM, hnamed, hmethM, hstM, habM⟩ := Cond.instanceMethod_spec hinst
  obtain ⟨methM', cM, hmethM', -, -, -, -, -, -, hsigM⟩ := Cond.code_spec hnamed hcode
  cases hmethM.symm.trans hmethM'
  obtain ⟨c2, r2, m2, q1, q2, q3, q4, kP, hkP, hkPi⟩ := Cond.selects_spec hsel
  cases hcls.symm.trans q1
  cases (State.methodFound?_of_named hnamed hy).symm.trans q2
  cases hnamed.symm.trans q3
  have hselP : selectMethod e.platform s.vm cellB.cls mk = .method mk := by rw [Launch.admits_selectMethod X.admits]; exact q4
  obtain ⟨vm₁, X₁, hstep₁⟩ := X.invokevirtual hexec hown hlink hnamed hmethM hstM hkP hkPi hy (a := b) (cell := cellB) hcell
    (fun z h => by rw [h] at hobj; cases hobj) hselP hmethM habM hkP hkPi (g := g) hg (argsL := argsL) (rest := rest) (hlen _ hsigM) hstack hdg
  rcases hK m meth c ⟨T.setVm vm₁, locs, cells, slots⟩ { g with stack := rest } (.invokevirtual index) mk (Value.ref b :: argsL).toArray X₁ hg hsize hdg hW (X₁.named hnamed) (hpre vm₁ X₁.warmed) with ⟨v, B, X', hpost, hsteps⟩ | ⟨q, B, X', hpost, hsteps⟩
  · exact Or.inl ⟨v, vm₁, B, X₁.warmed, X', hpost, fun target h => hstep₁ _ fun acts => by rw [doInvoke_state]; exact hsteps.trans h⟩
  · exact Or.inr ⟨q, vm₁, B, X₁.warmed, X', hpost, hstep₁ _ fun acts => by rw [doInvoke_state]; exact hsteps⟩
theorem vx_callS (X : Stand p l e R s m args below meth c T locs cells slots) (hexec : p.tables.exec = Jvm.exec) {own : String} {index : Nat} {y : MethodName} {bytes : ByteArray} {maxL : Nat} {ret : Option FieldType}
    (hown : s.vm.findClass own = some m.cls) (hlink : (Cond.methodLink own index y).before args s = true) (hstat : (Cond.static y).before args s = true) (hinit : (Cond.initialized y.cls).before args s = true)
    (hcode : (Cond.code y bytes maxL ret).before args s = true) (hy : y.cls ≠ "java/lang/invoke/MethodHandle" ∧ y.cls ≠ "java/lang/invoke/VarHandle")
    {W9 : Nat} {Pre : Pt → Array Value → Prop} {Post : Pt → Array Value → Option Value → Pt → Prop} {PostX : Pt → Array Value → Addr → Pt → Prop} (hK : vx_Back l R p e below s args y 3 W9 Pre Post PostX)
    {g : JFrame} (hg : g.method = m) (hsize : g.locals.size = c.maxLocals) {argsL rest : List Value} (hlen : ∀ sig, parseMethodDescriptor y.desc = some sig → argsL.length = sig.parameters.length)
    (hstack : g.stack = argsL.reverse ++ rest) (hW : 2 * g.monitorRoom + (rest.map fun v => v.category).sum ≤ W9) (hdg : decode c.code g.pc = .ok (.invokestatic index, 3))
    (hpre : ∀ vm₁, s.WarmedH vm₁ → Pre ⟨T.setVm vm₁, locs, cells, slots⟩ argsL.toArray) :
    (∃ (v : Option Value) (vm₁ : Vm) (B : Pt), s.WarmedH vm₁ ∧ Stand p l e R s m args below meth c B.U B.locs B.cells B.slots ∧ Post ⟨T.setVm vm₁, locs, cells, slots⟩ argsL.toArray v B ∧
      ∀ target, Steps p.tables e below (B.U.setTop { g with pc := g.pc + 3, stack := v.toList ++ rest }) target → Steps p.tables e below (T.setTop g) target) ∨
    (∃ (q : Addr) (vm₁ : Vm) (B : Pt), s.WarmedH vm₁ ∧ Stand p l e R s m args below meth c B.U B.locs B.cells B.slots ∧ PostX ⟨T.setVm vm₁, locs, cells, slots⟩ argsL.toArray q B ∧
      Steps p.tables e below (T.setTop g) ((B.U.setTop { g with stack := rest }).pushFrame (.throwing q))) := by
  obtain ⟨mk, hnamed⟩ := Cond.code_named hcode
  obtain ⟨methM, cM, hmethM, -, -, -, -, -, -, hsigM⟩ := Cond.code_spec hnamed hcode
  have hstatic : methM.isStatic = true := Cond.static_spec hnamed hmethM hstat
  obtain ⟨kP, hkP, -⟩ := className_of_methodNamed hnamed
  have hinitP : kP.init = .initialized := Cond.initialized_spec (findClass_of_methodNamed hnamed) hkP hinit
  obtain ⟨vm₁, X₁, hstep₁⟩ := X.invokestatic hexec hown hlink hnamed hmethM hstatic hkP hinitP hy (g := g) hg (argsL := argsL) (rest := rest) (hlen _ hsigM) hstack hdg
  rcases hK m meth c ⟨T.setVm vm₁, locs, cells, slots⟩ { g with stack := rest } (.invokestatic index) mk argsL.toArray X₁ hg hsize hdg hW (X₁.named hnamed) (hpre vm₁ X₁.warmed) with ⟨v, B, X', hpost, hsteps⟩ | ⟨q, B, X', hpost, hsteps⟩
  · exact Or.inl ⟨v, vm₁, B, X₁.warmed, X', hpost, fun target h => hstep₁ _ fun acts => by rw [doInvoke_state]; exact hsteps.trans h⟩
  · exact Or.inr ⟨q, vm₁, B, X₁.warmed, X', hpost, hstep₁ _ fun acts => by rw [doInvoke_state]; exact hsteps⟩
end Calls
theorem vx_cls {s : State} {T : State} {vm₁ : Vm} {E : String} {k : ClassId} (hW : s.WarmedH vm₁) (h : (T.setVm vm₁).vm.findClass E = some k) : s.vm.findClass E = some k := by
  have h1 : vm₁.findClass E = some k := h
  rw [hW.alike.findClass] at h1
  exact h1
/-- the method's frame g, with q thrown over it -/
def vx_W (p : Program) (l : Launch) (e : Env) (R : Room) (s : State) (m : MethodId) (args : Array Value) (below : List Frame) (meth : Method) (c : Code) (H : Heap) (locs : List Loc) (cells slots : Nat) (Q : State → Prop) (g : JFrame) (q : Addr) : Prop :=
  ∀ T : State, T.heap = H → Stand p l e R s m args below meth c T locs cells slots → ∃ t, Steps p.tables e below ((T.setTop g).pushFrame (.throwing q)) t ∧ Q t
def vx_Run (p : Program) (l : Launch) (e : Env) (R : Room) (s : State) (m : MethodId) (args : Array Value) (below : List Frame) (meth : Method) (c : Code) (H : Heap) (locs : List Loc) (cells slots mc ms : Nat) (g : JFrame) (rest : List Value) (Qa : State → Outcome → State → Prop) (XC : String → State → State → Prop) (free : Addr → Prop) : Prop :=
  ∀ T : State, T.heap = H → Stand p l e R s m args below meth c T locs cells slots →
    (∃ (v : Option Value) (st₀ t T' : State) (L : List Loc), st₀.heap = H ∧ Stand p l e R s m args below meth c T' (locs ++ L) (cells + mc) (slots + ms) ∧ (∀ q ∈ L, free q.base) ∧ T'.heap = t.heap ∧ T'.vm = t.vm ∧ Qa st₀ (.returned v) t ∧
      Goes p e below T g T' { g with pc := g.pc + 3, stack := v.toList ++ rest }) ∨
    (∃ (q : Addr) (st₀ t T' : State) (L : List Loc) (E : String) (ce : Cell), st₀.heap = H ∧ Stand p l e R s m args below meth c T' (locs ++ L) (cells + mc) (slots + ms) ∧ (∀ z ∈ L, free z.base) ∧ T'.heap = t.heap ∧ T'.vm = t.vm ∧ XC E st₀ t ∧ t.heap[q]? = some ce ∧ ce.vm = .none ∧ s.vm.findClass E = some ce.cls ∧
      Steps p.tables e below (T.setTop g) ((T'.setTop { g with stack := rest }).pushFrame (.throwing q)))
def vx_X {S : Type} (px : S → Prop) (B : String → S → State → Prop) (A : Nat → Prop) : String → State → State → Prop := fun E st t => ∃ u : S, px u ∧ B E u t ∧ va_F A st t
section Runs
variable {p : Program} {l : Launch} {e : Env} {R : Room} {s : State} {m : MethodId} {args : Array Value} {below : List Frame} {meth : Method} {c : Code} {H : Heap} {locs : List Loc} {cells slots : Nat}
variable {y : MethodName} {bytes cc : ByteArray} {maxL nL mc ms n index : Nat} {ret : Option FieldType} {ws : List Cond} {rm : Room} {Pc : Array Value → State → Prop} {Qc : Array Value → State → Outcome → State → Prop} {XC : String → State → State → Prop} {free : Addr → Prop} {Ts : List Cond} {own C : String} {b : Addr} {As rest : List Value} {g : JFrame}
theorem vx_callBack (cb : CallB R s args own index y bytes maxL ret ws rm mc ms n) (hM : vx_Met l y ws rm Pc Qc XC mc ms free) (hbl : FrameBlind Pc) : vx_Back l R p e below s args y 3 8 (PreOf R mc ms Pc) (PostOf Qc mc ms free) (vx_Post XC mc ms free) := by
  obtain ⟨hrc, hrs, hfr, hlo, hws, hcw, -, hini, -⟩ := cb
  exact vx_back (bytes := bytes) (maxL := maxL) (ret := ret) hM hbl hrc hrs hfr hlo hws hcw (fun a' U hW => word_at hW (Or.inl (by first | rfl | simp [Cond.onTables, Cond.keeps, Cond.steady])) hini)
theorem vx_runV (S : CallFix p m c cc nL s args Ts own) (hM : vx_Met l y ws rm Pc Qc XC mc ms free) (cw : CallW R s args own C index y bytes maxL ret ws rm mc ms n) (hp : PreV s H C b Pc As)
    (hg : g.method = m) (hn : As.length = n) (hsize : g.locals.size = nL) (hstack : g.stack = As.reverse ++ .ref b :: rest) (hW : 2 * g.monitorRoom + (rest.map fun v => v.category).sum ≤ 8) (hdg : decode cc g.pc = .ok (.invokevirtual index, 3)) (hf : cells + mc ≤ R.cells ∧ slots + ms ≤ R.slots) :
    vx_Run p l e R s m args below meth c H locs cells slots mc ms g rest (Qc (Value.ref b :: As).toArray) XC free := by
  have hK : vx_Back l R p e below s args y 3 8 (PreOf R mc ms Pc) (PostOf Qc mc ms free) (vx_Post XC mc ms free) := vx_callBack cw.1 hM hp.1
  obtain ⟨⟨-, -, -, -, -, -, hcode, -, hy, hlen, hl⟩, hin, hse⟩ := cw
  obtain ⟨hx, hb, hml, ho, -⟩ := S
  obtain ⟨-, ⟨cellB, hcB, hoB, hclB⟩, hPc⟩ := hp
  intro T hT X
  rcases vx_callV X hx (C := C) (bytes := bytes) (maxL := maxL) (ret := ret) ho hl hin hse hcode hy hK (by rw [hT]; exact hcB) hoB hclB hg (hsize.trans hml.symm) (argsL := As) (rest := rest) (fun sig h => hn.trans (hlen sig h)) hstack hW (by rw [hb]; exact hdg)
    (fun vm₁ hW₁ => ⟨hf.1, hf.2, hPc (T.setVm vm₁) hT hW₁⟩) with ⟨v, vm₁, ⟨U', l2, c2, s2⟩, hW₁, X', ⟨g', mk, t, L, e1, e2, hq, h1, hL, h2, h3⟩, st⟩ | ⟨q, vm₁, ⟨U', l2, c2, s2⟩, hW₁, X', ⟨g', mk, t, L, E, ce, e1, e2, hq, hce, hcv, hcl, h1, hL, h2, h3⟩, st⟩
  · dsimp only [Pt.U, Pt.locs, Pt.cells, Pt.slots] at X' e1 e2 h1 h2 h3 st
    subst h1; subst h2; subst h3
    exact Or.inl ⟨v, (T.setVm vm₁).calling g' mk (Value.ref b :: As).toArray, t, U', L, hT, X', hL, e1, e2, hq, st⟩
  · dsimp only [Pt.U, Pt.locs, Pt.cells, Pt.slots] at X' e1 e2 h1 h2 h3 st hcl
    subst h1; subst h2; subst h3
    exact Or.inr ⟨q, (T.setVm vm₁).calling g' mk (Value.ref b :: As).toArray, t, U', L, E, ce, hT, X', hL, e1, e2, hq, hce, hcv, vx_cls hW₁ hcl, st⟩
theorem vx_runS (S : CallFix p m c cc nL s args Ts own) (hM : vx_Met l y ws rm Pc Qc XC mc ms free) (cw : CallB R s args own index y bytes maxL ret ws rm mc ms n ∧ (Cond.static y).before args s = true) (hp : PreS s H Pc As)
    (hg : g.method = m) (hn : As.length = n) (hsize : g.locals.size = nL) (hstack : g.stack = As.reverse ++ rest) (hW : 2 * g.monitorRoom + (rest.map fun v => v.category).sum ≤ 8) (hdg : decode cc g.pc = .ok (.invokestatic index, 3)) (hf : cells + mc ≤ R.cells ∧ slots + ms ≤ R.slots) :
    vx_Run p l e R s m args below meth c H locs cells slots mc ms g rest (Qc As.toArray) XC free := by
  have hK : vx_Back l R p e below s args y 3 8 (PreOf R mc ms Pc) (PostOf Qc mc ms free) (vx_Post XC mc ms free) := vx_callBack cw.1 hM hp.1
  obtain ⟨⟨-, -, -, -, -, -, hcode, hini, hy, hlen, hl⟩, hstt⟩ := cw
  obtain ⟨hx, hb, hml, ho, -⟩ := S
  intro T hT X
  rcases vx_callS X hx (bytes := bytes) (maxL := maxL) (ret := ret) ho hl hstt hini hcode hy hK hg (hsize.trans hml.symm) (argsL := As) (rest := rest) (fun sig h => hn.trans (hlen sig h)) hstack hW (by rw [hb]; exact hdg)
    (fun vm₁ hW₁ => ⟨hf.1, hf.2, hp.2 (T.setVm vm₁) hT hW₁⟩) with ⟨v, vm₁, ⟨U', l2, c2, s2⟩, hW₁, X', ⟨g', mk, t, L, e1, e2, hq, h1, hL, h2, h3⟩, st⟩ | ⟨q, vm₁, ⟨U', l2, c2, s2⟩, hW₁, X', ⟨g', mk, t, L, E, ce, e1, e2, hq, hce, hcv, hcl, h1, hL, h2, h3⟩, st⟩
  · dsimp only [Pt.U, Pt.locs, Pt.cells, Pt.slots] at X' e1 e2 h1 h2 h3 st
    subst h1; subst h2; subst h3
    exact Or.inl ⟨v, (T.setVm vm₁).calling g' mk As.toArray, t, U', L, hT, X', hL, e1, e2, hq, st⟩
  · dsimp only [Pt.U, Pt.locs, Pt.cells, Pt.slots] at X' e1 e2 h1 h2 h3 st hcl
    subst h1; subst h2; subst h3
    exact Or.inr ⟨q, (T.setVm vm₁).calling g' mk As.toArray, t, U', L, E, ce, hT, X', hL, e1, e2, hq, hce, hcv, vx_cls hW₁ hcl, st⟩
end Runs
section Rows
variable {p : Program} {l : Launch} {e : Env} {R : Room} {s : State} {m : MethodId} {args : Array Value} {below : List Frame} {meth : Method} {c : Code} {H : Heap} {locs : List Loc} {cells slots : Nat} {Q : State → Prop}
variable {mc ms : Nat} {free : Addr → Prop} {A0 A1 : Nat → Prop} {H0 : Heap} {a : Array Value} {pc : Nat} {ls : Array Slot} {st0 rest : List Value}
theorem vx_keep {st₀ t T' : State} {L : List Loc} (h0 : st₀.heap = H) (e1 : T'.heap = t.heap) (hS : va_S A0 H0 H locs) (hA : ∀ q, q < H.size → A1 q → A0 q) (hf : ∀ q, free q → A0 q) (hL : ∀ q ∈ L, free q.base) (hF : va_F A1 st₀ t) :
    H.size ≤ T'.heap.size ∧ (∀ q : Nat, q < H.size → ¬ A1 q → T'.heap[q]? = H[q]?) ∧ va_S A0 H0 T'.heap (locs ++ L) := by
  obtain ⟨hz, hk⟩ := hF
  rw [h0] at hz hk
  exact ⟨by rw [e1]; exact hz, fun q h1 h2 => by rw [e1]; exact hk q h1 h2,
    ⟨Nat.le_trans hS.1 (by rw [e1]; exact hz), fun q h1 h2 => by rw [e1, hk q (Nat.lt_of_lt_of_le h1 hS.1) (fun z => h2 (hA q (Nat.lt_of_lt_of_le h1 hS.1) z))]; exact hS.2.1 q h1 h2, fun q hq => by
      rcases List.mem_append.mp hq with h | h
      · exact hS.2.2 q h
      · exact hf _ (hL q h)⟩⟩
theorem vx_calli {S SX : Type} {post : Int32 → S → Prop} {px : SX → Prop} {B : S → State → Prop} {BX : String → SX → State → Prop} {AX : Nat → Prop} (hr : vx_Run p l e R s m args below meth c H locs cells slots mc ms (F0 m pc ls st0) rest (va_Qi post B A1 a) (vx_X px BX AX) free) (hS : va_S A0 H0 H locs) (hA : ∀ q, q < H.size → A1 q → A0 q) (hf : ∀ q, free q → A0 q) (hAX : ∀ q, q < H.size → AX q → A0 q)
    (kx : ∀ (E : String) (ce : Cell) (q9 : Addr) (u : SX) (t : State) (H1 : Heap) (locs1 : List Loc), t.heap = H1 → s.vm.Alike t.vm → px u → BX E u t → H.size ≤ H1.size → (∀ q : Nat, q < H.size → ¬ AX q → H1[q]? = H[q]?) → va_S A0 H0 H1 locs1 → H1[q9]? = some ce → ce.vm = .none → s.vm.findClass E = some ce.cls → vx_W p l e R s m args below meth c H1 locs1 (cells + mc) (slots + ms) Q (F0 m pc ls rest) q9)
    (kk : ∀ (r : Int32) (u : S) (t : State) (H1 : Heap) (locs1 : List Loc), t.heap = H1 → s.vm.Alike t.vm → post r u → B u t → H.size ≤ H1.size → (∀ q : Nat, q < H.size → ¬ A1 q → H1[q]? = H[q]?) → va_S A0 H0 H1 locs1 → W p l e R s m args below meth c H1 locs1 (cells + mc) (slots + ms) Q (F0 m (pc + 3) ls (.int r :: rest))) : W p l e R s m args below meth c H locs cells slots Q (F0 m pc ls st0) := by
  intro T hT X
  rcases hr T hT X with ⟨v, st₀, t, T', L, h0, X', hL, e1, e2, ⟨⟨r, u, hv, hp, hb⟩, hF⟩, st⟩ | ⟨q, st₀, t, T', L, E, ce, h0, X', hL, e1, e2, ⟨u, hp, hb, hF⟩, hce, hcv, hcl, st⟩
  · cases hv
    obtain ⟨k1, k2, k3⟩ := vx_keep h0 e1 hS hA hf hL hF
    obtain ⟨t2, a1, b1⟩ := kk r u t T'.heap (locs ++ L) e1.symm (by rw [← e2]; exact X'.warmed.alike) hp hb k1 k2 k3 T' rfl X'
    exact ⟨t2, st t2 a1, b1⟩
  · obtain ⟨k1, k2, k3⟩ := vx_keep h0 e1 hS hAX hf hL hF
    obtain ⟨t2, a1, b1⟩ := kx E ce q u t T'.heap (locs ++ L) e1.symm (by rw [← e2]; exact X'.warmed.alike) hp hb k1 k2 k3 (by rw [e1]; exact hce) hcv hcl T' rfl X'
    exact ⟨t2, st.trans a1, b1⟩
theorem vx_calll {S SX : Type} {post : Int64 → S → Prop} {px : SX → Prop} {B : S → State → Prop} {BX : String → SX → State → Prop} {AX : Nat → Prop} (hr : vx_Run p l e R s m args below meth c H locs cells slots mc ms (F0 m pc ls st0) rest (va_Ql post B A1 a) (vx_X px BX AX) free) (hS : va_S A0 H0 H locs) (hA : ∀ q, q < H.size → A1 q → A0 q) (hf : ∀ q, free q → A0 q) (hAX : ∀ q, q < H.size → AX q → A0 q)
    (kx : ∀ (E : String) (ce : Cell) (q9 : Addr) (u : SX) (t : State) (H1 : Heap) (locs1 : List Loc), t.heap = H1 → s.vm.Alike t.vm → px u → BX E u t → H.size ≤ H1.size → (∀ q : Nat, q < H.size → ¬ AX q → H1[q]? = H[q]?) → va_S A0 H0 H1 locs1 → H1[q9]? = some ce → ce.vm = .none → s.vm.findClass E = some ce.cls → vx_W p l e R s m args below meth c H1 locs1 (cells + mc) (slots + ms) Q (F0 m pc ls rest) q9)
    (kk : ∀ (r : Int64) (u : S) (t : State) (H1 : Heap) (locs1 : List Loc), t.heap = H1 → s.vm.Alike t.vm → post r u → B u t → H.size ≤ H1.size → (∀ q : Nat, q < H.size → ¬ A1 q → H1[q]? = H[q]?) → va_S A0 H0 H1 locs1 → W p l e R s m args below meth c H1 locs1 (cells + mc) (slots + ms) Q (F0 m (pc + 3) ls (.long r :: rest))) : W p l e R s m args below meth c H locs cells slots Q (F0 m pc ls st0) := by
  intro T hT X
  rcases hr T hT X with ⟨v, st₀, t, T', L, h0, X', hL, e1, e2, ⟨⟨r, u, hv, hp, hb⟩, hF⟩, st⟩ | ⟨q, st₀, t, T', L, E, ce, h0, X', hL, e1, e2, ⟨u, hp, hb, hF⟩, hce, hcv, hcl, st⟩
  · cases hv
    obtain ⟨k1, k2, k3⟩ := vx_keep h0 e1 hS hA hf hL hF
    obtain ⟨t2, a1, b1⟩ := kk r u t T'.heap (locs ++ L) e1.symm (by rw [← e2]; exact X'.warmed.alike) hp hb k1 k2 k3 T' rfl X'
    exact ⟨t2, st t2 a1, b1⟩
  · obtain ⟨k1, k2, k3⟩ := vx_keep h0 e1 hS hAX hf hL hF
    obtain ⟨t2, a1, b1⟩ := kx E ce q u t T'.heap (locs ++ L) e1.symm (by rw [← e2]; exact X'.warmed.alike) hp hb k1 k2 k3 (by rw [e1]; exact hce) hcv hcl T' rfl X'
    exact ⟨t2, st.trans a1, b1⟩
theorem vx_callf {S SX : Type} {post : UInt32 → S → Prop} {px : SX → Prop} {B : S → State → Prop} {BX : String → SX → State → Prop} {AX : Nat → Prop} (hr : vx_Run p l e R s m args below meth c H locs cells slots mc ms (F0 m pc ls st0) rest (va_Qf post B A1 a) (vx_X px BX AX) free) (hS : va_S A0 H0 H locs) (hA : ∀ q, q < H.size → A1 q → A0 q) (hf : ∀ q, free q → A0 q) (hAX : ∀ q, q < H.size → AX q → A0 q)
    (kx : ∀ (E : String) (ce : Cell) (q9 : Addr) (u : SX) (t : State) (H1 : Heap) (locs1 : List Loc), t.heap = H1 → s.vm.Alike t.vm → px u → BX E u t → H.size ≤ H1.size → (∀ q : Nat, q < H.size → ¬ AX q → H1[q]? = H[q]?) → va_S A0 H0 H1 locs1 → H1[q9]? = some ce → ce.vm = .none → s.vm.findClass E = some ce.cls → vx_W p l e R s m args below meth c H1 locs1 (cells + mc) (slots + ms) Q (F0 m pc ls rest) q9)
    (kk : ∀ (r : UInt32) (u : S) (t : State) (H1 : Heap) (locs1 : List Loc), t.heap = H1 → s.vm.Alike t.vm → post r u → B u t → H.size ≤ H1.size → (∀ q : Nat, q < H.size → ¬ A1 q → H1[q]? = H[q]?) → va_S A0 H0 H1 locs1 → W p l e R s m args below meth c H1 locs1 (cells + mc) (slots + ms) Q (F0 m (pc + 3) ls (.float r :: rest))) : W p l e R s m args below meth c H locs cells slots Q (F0 m pc ls st0) := by
  intro T hT X
  rcases hr T hT X with ⟨v, st₀, t, T', L, h0, X', hL, e1, e2, ⟨⟨r, u, hv, hp, hb⟩, hF⟩, st⟩ | ⟨q, st₀, t, T', L, E, ce, h0, X', hL, e1, e2, ⟨u, hp, hb, hF⟩, hce, hcv, hcl, st⟩
  · cases hv
    obtain ⟨k1, k2, k3⟩ := vx_keep h0 e1 hS hA hf hL hF
    obtain ⟨t2, a1, b1⟩ := kk r u t T'.heap (locs ++ L) e1.symm (by rw [← e2]; exact X'.warmed.alike) hp hb k1 k2 k3 T' rfl X'
    exact ⟨t2, st t2 a1, b1⟩
  · obtain ⟨k1, k2, k3⟩ := vx_keep h0 e1 hS hAX hf hL hF
    obtain ⟨t2, a1, b1⟩ := kx E ce q u t T'.heap (locs ++ L) e1.symm (by rw [← e2]; exact X'.warmed.alike) hp hb k1 k2 k3 (by rw [e1]; exact hce) hcv hcl T' rfl X'
    exact ⟨t2, st.trans a1, b1⟩
theorem vx_calld {S SX : Type} {post : UInt64 → S → Prop} {px : SX → Prop} {B : S → State → Prop} {BX : String → SX → State → Prop} {AX : Nat → Prop} (hr : vx_Run p l e R s m args below meth c H locs cells slots mc ms (F0 m pc ls st0) rest (va_Qd post B A1 a) (vx_X px BX AX) free) (hS : va_S A0 H0 H locs) (hA : ∀ q, q < H.size → A1 q → A0 q) (hf : ∀ q, free q → A0 q) (hAX : ∀ q, q < H.size → AX q → A0 q)
    (kx : ∀ (E : String) (ce : Cell) (q9 : Addr) (u : SX) (t : State) (H1 : Heap) (locs1 : List Loc), t.heap = H1 → s.vm.Alike t.vm → px u → BX E u t → H.size ≤ H1.size → (∀ q : Nat, q < H.size → ¬ AX q → H1[q]? = H[q]?) → va_S A0 H0 H1 locs1 → H1[q9]? = some ce → ce.vm = .none → s.vm.findClass E = some ce.cls → vx_W p l e R s m args below meth c H1 locs1 (cells + mc) (slots + ms) Q (F0 m pc ls rest) q9)
    (kk : ∀ (r : UInt64) (u : S) (t : State) (H1 : Heap) (locs1 : List Loc), t.heap = H1 → s.vm.Alike t.vm → post r u → B u t → H.size ≤ H1.size → (∀ q : Nat, q < H.size → ¬ A1 q → H1[q]? = H[q]?) → va_S A0 H0 H1 locs1 → W p l e R s m args below meth c H1 locs1 (cells + mc) (slots + ms) Q (F0 m (pc + 3) ls (.double r :: rest))) : W p l e R s m args below meth c H locs cells slots Q (F0 m pc ls st0) := by
  intro T hT X
  rcases hr T hT X with ⟨v, st₀, t, T', L, h0, X', hL, e1, e2, ⟨⟨r, u, hv, hp, hb⟩, hF⟩, st⟩ | ⟨q, st₀, t, T', L, E, ce, h0, X', hL, e1, e2, ⟨u, hp, hb, hF⟩, hce, hcv, hcl, st⟩
  · cases hv
    obtain ⟨k1, k2, k3⟩ := vx_keep h0 e1 hS hA hf hL hF
    obtain ⟨t2, a1, b1⟩ := kk r u t T'.heap (locs ++ L) e1.symm (by rw [← e2]; exact X'.warmed.alike) hp hb k1 k2 k3 T' rfl X'
    exact ⟨t2, st t2 a1, b1⟩
  · obtain ⟨k1, k2, k3⟩ := vx_keep h0 e1 hS hAX hf hL hF
    obtain ⟨t2, a1, b1⟩ := kx E ce q u t T'.heap (locs ++ L) e1.symm (by rw [← e2]; exact X'.warmed.alike) hp hb k1 k2 k3 (by rw [e1]; exact hce) hcv hcl T' rfl X'
    exact ⟨t2, st.trans a1, b1⟩
theorem vx_callv {S SX : Type} {post : S → Prop} {px : SX → Prop} {B : S → State → Prop} {BX : String → SX → State → Prop} {AX : Nat → Prop} (hr : vx_Run p l e R s m args below meth c H locs cells slots mc ms (F0 m pc ls st0) rest (va_Qv post B A1 a) (vx_X px BX AX) free) (hS : va_S A0 H0 H locs) (hA : ∀ q, q < H.size → A1 q → A0 q) (hf : ∀ q, free q → A0 q) (hAX : ∀ q, q < H.size → AX q → A0 q)
    (kx : ∀ (E : String) (ce : Cell) (q9 : Addr) (u : SX) (t : State) (H1 : Heap) (locs1 : List Loc), t.heap = H1 → s.vm.Alike t.vm → px u → BX E u t → H.size ≤ H1.size → (∀ q : Nat, q < H.size → ¬ AX q → H1[q]? = H[q]?) → va_S A0 H0 H1 locs1 → H1[q9]? = some ce → ce.vm = .none → s.vm.findClass E = some ce.cls → vx_W p l e R s m args below meth c H1 locs1 (cells + mc) (slots + ms) Q (F0 m pc ls rest) q9)
    (kk : ∀ (u : S) (t : State) (H1 : Heap) (locs1 : List Loc), t.heap = H1 → s.vm.Alike t.vm → post u → B u t → H.size ≤ H1.size → (∀ q : Nat, q < H.size → ¬ A1 q → H1[q]? = H[q]?) → va_S A0 H0 H1 locs1 → W p l e R s m args below meth c H1 locs1 (cells + mc) (slots + ms) Q (F0 m (pc + 3) ls (rest))) : W p l e R s m args below meth c H locs cells slots Q (F0 m pc ls st0) := by
  intro T hT X
  rcases hr T hT X with ⟨v, st₀, t, T', L, h0, X', hL, e1, e2, ⟨⟨u, hv, hp, hb⟩, hF⟩, st⟩ | ⟨q, st₀, t, T', L, E, ce, h0, X', hL, e1, e2, ⟨u, hp, hb, hF⟩, hce, hcv, hcl, st⟩
  · cases hv
    obtain ⟨k1, k2, k3⟩ := vx_keep h0 e1 hS hA hf hL hF
    obtain ⟨t2, a1, b1⟩ := kk u t T'.heap (locs ++ L) e1.symm (by rw [← e2]; exact X'.warmed.alike) hp hb k1 k2 k3 T' rfl X'
    exact ⟨t2, st t2 a1, b1⟩
  · obtain ⟨k1, k2, k3⟩ := vx_keep h0 e1 hS hAX hf hL hF
    obtain ⟨t2, a1, b1⟩ := kx E ce q u t T'.heap (locs ++ L) e1.symm (by rw [← e2]; exact X'.warmed.alike) hp hb k1 k2 k3 (by rw [e1]; exact hce) hcv hcl T' rfl X'
    exact ⟨t2, st.trans a1, b1⟩
/-- caught by the row x of this method's table; the rows ahead don't take it -/
theorem vx_catch {own name : String} {E : String} {ce : Cell} {q : Addr} (hown : s.vm.findClass own = some m.cls) (pre : List ExceptionTableEntry) (x : ExceptionTableEntry) (suf : List ExceptionTableEntry) (hsplit : c.exceptionTable.toList = pre ++ x :: suf)
    (hpass : ∀ z ∈ pre, covers z pc = false ∨ (z.catchType ≠ 0 ∧ ∃ nm : String, (Cond.classLink own z.catchType nm).before args s = true ∧ va_Nc E nm s)) (hx : covers x pc = true) (h0 : x.catchType ≠ 0)
    (hlink : (Cond.classLink own x.catchType name).before args s = true) (hcast : (Cond.castable E name).before args s = true) (hcell : H[q]? = some ce) (hv : ce.vm = .none) (hcl : s.vm.findClass E = some ce.cls)
    (kk : W p l e R s m args below meth c H locs cells slots Q (F0 m x.handlerPc ls [.ref q])) : vx_W p l e R s m args below meth c H locs cells slots Q (F0 m pc ls rest) q := by
  intro T hT X
  have hpl : e.platform.magicAccessors = ({} : Platform).magicAccessors := by rw [X.admits.platform]
  obtain ⟨c3, c4, hc3, hc4, hasg⟩ := Cond.castable_spec hcast
  cases Option.some.inj (hc3.symm.trans hcl)
  obtain ⟨c5, hc5, hcl5⟩ := Cond.classLink_spec hown hlink e.platform hpl
  cases Option.some.inj (hc4.symm.trans hc5)
  obtain ⟨vm', X', st⟩ := X.thenCaughtThrough q (g := F0 m pc ls rest) rfl (Steps.refl _) (by rw [hT]; exact hcell) (by rw [hv]; rfl) (by obtain ⟨k9, h9, -⟩ := Vm.findClass_spec hcl; exact ⟨k9, h9⟩) pre x suf hsplit
    (fun z hz => by
      rcases hpass z hz with h | ⟨hz0, nm, hl1, hn1⟩
      · exact Or.inl h
      · obtain ⟨c6, hc6, hcl6⟩ := Cond.classLink_spec hown hl1 e.platform hpl
        obtain ⟨a8, b8, h1, h2, h3⟩ := hn1
        cases Option.some.inj (h1.symm.trans hcl)
        cases Option.some.inj (h2.symm.trans hc6)
        exact Or.inr ⟨hz0, _, hcl6, h3⟩) hx (Or.inr ⟨h0, c4, hcl5, hasg⟩)
  obtain ⟨t, a1, b1⟩ := kk (T.setVm vm') hT X'
  exact ⟨t, st.trans a1, b1⟩
end Rows
section Ends
variable {p : Program} {l : Launch} {e : Env} {R : Room} {s : State} {m : MethodId} {args : Array Value} {below : List Frame} {meth : Method} {c : Code} {H : Heap} {locs : List Loc} {cells slots : Nat} {Q : State → Prop}
variable {mc ms : Nat} {free : Addr → Prop} {A0 A1 : Nat → Prop} {H0 : Heap} {a : Array Value} {ls : Array Slot} {st0 rest : List Value}
variable {Qc : Array Value → State → Outcome → State → Prop} {XC : String → State → State → Prop}
/-- what a body that may throw owes at its end -/
def vx_MQ (below : List Frame) (Qc : Array Value → State → Outcome → State → Prop) (XC : String → State → State → Prop) (a : Array Value) (s : State) (mc ms : Nat) (free : Addr → Prop) : State → Prop := fun t =>
  ∃ o, t.status = .running ∧ Ended t below o ∧ vx_Q Qc XC mc ms free a s o t
theorem vx_ret {g : JFrame} {mc ms : Nat} (k : W p l e R s m args below meth c H locs cells slots (MQ below Qc args s mc ms free) g) : W p l e R s m args below meth c H locs cells slots (vx_MQ below Qc XC args s mc ms free) g := by
  intro T hT X
  obtain ⟨t, a1, o, b1, b2, b3, b4⟩ := k T hT X
  exact ⟨t, a1, o, b1, b2, Or.inl ⟨b3, b4⟩⟩
/-- not caught here: it goes on to the caller -/
theorem vx_widen {g : JFrame} {q : Addr} {k n : Nat} (h1 : cells ≤ k) (h2 : slots ≤ n) (kk : vx_W p l e R s m args below meth c H locs k n Q g q) : vx_W p l e R s m args below meth c H locs cells slots Q g q := fun T hT X => kk T hT (stand_widen X h1 h2)
theorem vx_out {pc : Nat} {E : String} {ce : Cell} {q : Addr} {mc ms : Nat} (hout : ∀ x ∈ c.exceptionTable.toList, covers x pc = false) (hlocks : meth.locks = false) (hcell : H[q]? = some ce) (hv : ce.vm = .none) (hcl : s.vm.findClass E = some ce.cls)
    (hx : ∀ t : State, t.heap = H → s.vm.Alike t.vm → XC E s t) (hf : ∀ z ∈ locs, free z.base) (hc : cells ≤ mc) (hs : slots ≤ ms) :
    vx_W p l e R s m args below meth c H locs cells slots (vx_MQ below Qc XC args s mc ms free) (F0 m pc ls rest) q := by
  intro T hT X
  obtain ⟨st1, hrun, hend, hW, hsm⟩ := X.leaveThrown q (g := F0 m pc ls rest) rfl rfl rfl hout hlocks
  have hcell9 : (T.setFrames (.throwing q :: below)).heap[q]? = some ce := by
    show T.heap[q]? = some ce
    rw [hT]; exact hcell
  exact ⟨_, st1, .threw q, hrun, hend, Or.inr ⟨q, rfl, E, ce, locs, hx _ hT hW.alike, hcell9, hv, hcl, hW, hsm.mono hc hs, hf⟩⟩
theorem vx_frame {U : State} {k n : Nat} (h : s.sameButNew ({ U with vm := s.vm } : State) locs k n) : s.heap.size ≤ U.heap.size ∧ ∀ q : Nat, q < s.heap.size → (∀ z ∈ locs, z.base ≠ q) → U.heap[q]? = s.heap[q]? := by
  obtain ⟨-, h2, -, -, -, h6⟩ := h
  refine ⟨h2, fun q hq hz => ?_⟩
  obtain ⟨c9, e1, e2, e3, e4⟩ := h6 q _ (Array.getElem?_eq_getElem hq)
  have hs : c9.slots = (s.heap[q]).slots := Array.ext_getElem? fun i => e4 i fun hm => hz _ hm rfl
  have h9 : c9 = s.heap[q] := by
    rw [hs] at e2
    exact e2
  have e5 : U.heap[q]? = some c9 := e1
  rw [e5, h9, Array.getElem?_eq_getElem hq]
/-- the words of a throw but the four that speak of the heap -/
def vx_no (w : Cond) : Bool := decide (w ≠ .isRef (.static Bundle.tN "UNASSIGNED_STACK" Bundle.steD)) && decide (w ≠ .isRef (.static Bundle.tN "SUPPRESSED_SENTINEL" Bundle.listD)) && decide (w ≠ .laysStatic Bundle.tN "UNASSIGNED_STACK" Bundle.steD) && decide (w ≠ .laysStatic Bundle.tN "SUPPRESSED_SENTINEL" Bundle.listD)
def vx_at0 (own : String) (ic : Nat) (X : String) (names : List String) : List Cond := (Bundle.ownAtoms0 own ic X names).filter vx_no
def vx_atS (own : String) (ic : Nat) (X : String) (names : List String) : List Cond := (Bundle.ownAtoms own ic X names).filter vx_no
/-- a word that the tables alone decide, or a good one -/
def vx_ot (w : Cond) : Bool := w.onTables || goodWord w
theorem vx_ot_at {args a' : Array Value} {s U : State} {w : Cond} (hW : s.WarmedH U.vm) (hvm : s.vm = U.vm) (hg : vx_ot w = true) (h : w.before args s = true) : w.before a' U = true := by
  simp only [vx_ot, Bool.or_eq_true] at hg
  rcases hg with hg | hg
  · exact va_tabs hg hvm h
  · exact word_at hW (good_of_word hg) h
/-- a list's words: the good ones out of the method's own list, the others by premises of their own -/
theorem vx_hat {args : Array Value} {s : State} {L B : List Cond} (h1 : ∀ w ∈ L.filter goodWord, w.before args s = true) (h2 : ∀ w ∈ L.filter (fun w => !goodWord w), w ∈ B) (h3 : ∀ w ∈ B, w.before args s = true) : ∀ w ∈ L, w.before args s = true := by
  intro w hw
  by_cases g : goodWord w = true
  · exact h1 w (List.mem_filter.mpr ⟨hw, g⟩)
  · refine h3 w (h2 w (List.mem_filter.mpr ⟨hw, ?_⟩))
    show (!goodWord w) = true
    cases hgw : goodWord w
    · rfl
    · exact absurd hgw g
theorem vx_c {args : Array Value} {s : State} {w : Cond} {B : List Cond} (h : w.before args s = true) (t : ∀ w ∈ B, w.before args s = true) : ∀ w' ∈ w :: B, w'.before args s = true := fun w' h' => (List.mem_cons.mp h').elim (fun e => by rw [e]; exact h) (t w')
theorem vx_n {args : Array Value} {s : State} : ∀ w ∈ ([] : List Cond), w.before args s = true := fun _ h => nomatch h
theorem vx_own {args : Array Value} {s : State} {L : List Cond} (h1 : ∀ w ∈ L.filter vx_no, w.before args s = true)
    (hU : (Cond.isRef (.static Bundle.tN "UNASSIGNED_STACK" Bundle.steD)).before args s = true) (hN : (Cond.isRef (.static Bundle.tN "SUPPRESSED_SENTINEL" Bundle.listD)).before args s = true)
    (lU : (Cond.laysStatic Bundle.tN "UNASSIGNED_STACK" Bundle.steD).before args s = true) (lN : (Cond.laysStatic Bundle.tN "SUPPRESSED_SENTINEL" Bundle.listD).before args s = true) : ∀ w ∈ L, w.before args s = true := by
  intro w hw
  by_cases e1 : w = .isRef (.static Bundle.tN "UNASSIGNED_STACK" Bundle.steD)
  · rw [e1]; exact hU
  · by_cases e2 : w = .isRef (.static Bundle.tN "SUPPRESSED_SENTINEL" Bundle.listD)
    · rw [e2]; exact hN
    · by_cases e3 : w = .laysStatic Bundle.tN "UNASSIGNED_STACK" Bundle.steD
      · rw [e3]; exact lU
      · by_cases e4 : w = .laysStatic Bundle.tN "SUPPRESSED_SENTINEL" Bundle.listD
        · rw [e4]; exact lN
        · exact h1 w (List.mem_filter.mpr ⟨hw, by unfold vx_no; rw [decide_eq_true e1, decide_eq_true e2, decide_eq_true e3, decide_eq_true e4]; rfl⟩)
/-- where a static field lies, its class's statics cell in H -/
def vx_L (C n d : String) (A : Nat → Prop) (U : State) (H : Heap) : Prop := ∃ (c : ClassId) (k : Class) (i : Nat) (f : Field) (a : Nat) (cell : Cell), U.vm.findClass C = some c ∧ U.fieldFound? C n d = some (c, k, i, f) ∧ f.isStatic = true ∧ k.statics = some a ∧ H[a]? = some cell ∧ cell.vm.isStatics = true ∧ cell.cls = c ∧ f.slot < cell.slots.size ∧ k.staticTypes[f.slot]? = some f.type ∧ ¬ A a
theorem vx_L.moved {C n d : String} {A : Nat → Prop} {u U : State} {H : Heap} (hvm : u.vm.Alike U.vm) (h : vx_L C n d A u H) : vx_L C n d A U H := by
  obtain ⟨c, k, i, f, a, cell, h1, h2, h3, h4, h5, h6, h7, h8, h9, h10⟩ := h
  obtain ⟨k', hi', he⟩ := State.fieldFound?_setVm hvm h2
  exact ⟨c, k', i, f, a, cell, by rw [hvm.findClass]; exact h1, hi', h3, by rw [he]; exact h4, h5, h6, h7, h8, by rw [he]; exact h9, h10⟩
theorem vx_L.kept {C n d : String} {A : Nat → Prop} {U : State} {H H1 : Heap} (h : vx_L C n d A U H) (hq : ∀ a : Nat, a < H.size → ¬ A a → H1[a]? = H[a]?) : vx_L C n d A U H1 := by
  obtain ⟨c, k, i, f, a, cell, h1, h2, h3, h4, h5, h6, h7, h8, h9, h10⟩ := h
  exact ⟨c, k, i, f, a, cell, h1, h2, h3, h4, by rw [hq a (Array.getElem?_eq_some_iff.mp h5).1 h10]; exact h5, h6, h7, h8, h9, h10⟩
theorem vx_L.narrow {C n d : String} {A B : Nat → Prop} {U : State} {H : Heap} (h : vx_L C n d A U H) (hAB : ∀ q, B q → A q) : vx_L C n d B U H := by
  obtain ⟨c, k, i, f, a, cell, h1, h2, h3, h4, h5, h6, h7, h8, h9, h10⟩ := h
  exact ⟨c, k, i, f, a, cell, h1, h2, h3, h4, h5, h6, h7, h8, h9, fun z => h10 (hAB _ z)⟩
theorem vx_L.word {C n d : String} {A : Nat → Prop} {s : State} {args : Array Value} (h : vx_L C n d A s s.heap) : (Cond.laysStatic C n d).before args s = true := by
  obtain ⟨c, k, i, f, a, cell, h1, h2, h3, h4, h5, h6, h7, h8, h9, -⟩ := h
  show (Cond.laysStatic C n d).holds args s none s [] = true
  exact Cond.laysStatic_of h1 h2 h3 h4 h5 h6 h7 h8 h9
/-- .. and what it holds: null or some reference -/
def vx_Zq (C n d : String) (A : Nat → Prop) (U : State) (H : Heap) : Prop := va_Zq C n d A U H ∧ vx_L C n d A U H
theorem vx_Zq.moved {C n d : String} {A : Nat → Prop} {u U : State} {H : Heap} (hvm : u.vm.Alike U.vm) (h : vx_Zq C n d A u H) : vx_Zq C n d A U H := ⟨va_Zq.moved hvm h.1, vx_L.moved hvm h.2⟩
theorem vx_Zq.kept {C n d : String} {A : Nat → Prop} {U : State} {H H1 : Heap} (h : vx_Zq C n d A U H) (hq : ∀ a : Nat, a < H.size → ¬ A a → H1[a]? = H[a]?) : vx_Zq C n d A U H1 := ⟨va_Zq.kept h.1 hq, vx_L.kept h.2 hq⟩
theorem vx_Zq.narrow {C n d : String} {A B : Nat → Prop} {U : State} {H : Heap} (h : vx_Zq C n d A U H) (hAB : ∀ q, B q → A q) : vx_Zq C n d B U H := ⟨va_Zq.narrow h.1 hAB, vx_L.narrow h.2 hAB⟩
theorem vx_Zqof {args : Array Value} {s : State} {C n d : String} {A : Nat → Prop} (hl : (Cond.laysStatic C n d).before args s = true) (hini : (Cond.initialized C).before args s = true) (h : (Cond.isRef (.static C n d)).before args s = true) (hA : ∀ a : Nat, a < s.heap.size → ¬ A a) : vx_Zq C n d A s s.heap := by
  refine ⟨va_Zqof hl hini h hA, ?_⟩
  obtain ⟨c, k, i, f, a, cell, h1, h2, h3, h4, h5, h6, h7, h8, h9⟩ := Cond.laysStatic_spec hl
  exact ⟨c, k, i, f, a, cell, h1, h2, h3, h4, h5, h6, h7, h8, h9, hA a (Array.getElem?_eq_some_iff.mp h5).1⟩
theorem vx_isRef {C n d : String} {v : Value} {A : Nat → Prop} {s : State} {args : Array Value} (h : va_Z C n d v A s s.heap) (hv : v.isRef = true) : (Cond.isRef (.static C n d)).before args s = true := by
  obtain ⟨cf, kf, fi, f, a, cell, h1, h2, h3, h4, h5, h6, h7, -⟩ := h
  have he : (Term.static C n d).eval args s none [] s = some v := by
    simp [Term.eval, State.fieldNamed?, h1, h2, h4, h5, h6, h7]
  simp only [Cond.before, Cond.holds, Cond.value, he]
  cases v <;> simp_all [Value.isRef]
theorem vx_isRefq {C n d : String} {A : Nat → Prop} {s : State} {args : Array Value} (h : va_Zq C n d A s s.heap) : (Cond.isRef (.static C n d)).before args s = true := by
  rcases h with h | ⟨t, h⟩
  · exact vx_isRef h rfl
  · exact vx_isRef h rfl
/-- the same frame, seen from here: as if the method were called anew in this heap -/
theorem vx_rebase {T : State} (X : Stand p l e R s m args below meth c T locs cells slots) {R' : Room} (hf : R'.frames ≤ R.frames) (hl : R'.locals ≤ R.locals) (hc : cells + R'.cells ≤ R.cells) (hs : slots + R'.slots ≤ R.slots) :
    Stand p l e R' ((T.setVm s.vm).setFrames (.invoking m args :: below)) m args below meth c T [] 0 0 := by
  have htop : (T.setVm s.vm).topJava?.isSome := X.here.top
  have hF : ((T.setVm s.vm).setFrames (.invoking m args :: below)).frames = .invoking m args :: below := State.frames_setFrames _ (State.cur_lt_of_top htop)
  obtain ⟨g₀, hg0⟩ := Option.isSome_iff_exists.mp htop
  obtain ⟨r, hr⟩ := State.topJava?_eq_some.mp hg0
  have hl9 : e.platform.stackLimits (T.setVm s.vm).me = e.platform.stackLimits s.me := X.limits
  have hb9 : (T.setVm s.vm).me.stackBytes = s.me.stackBytes := X.bytes
  refine ⟨X.admits, X.cas, X.clock, hF, ?_, X.hears, X.method, X.code, X.here, X.tail, X.warmed, ?_, ?_, ?_⟩
  · have h := X.room
    have hU : ((T.setVm s.vm).setFrames (.invoking m args :: below)).localsInUse = s.localsInUse := by
      rw [State.localsInUse_invoking hF (meth := meth) (c := c) X.method X.code, State.localsInUse_invoking X.frames X.method X.code]
    simp only [State.hasRoom, Bool.and_eq_true, decide_eq_true_eq] at h ⊢
    obtain ⟨⟨⟨⟨h1, h2, h3, h4, h5, h6⟩, h7⟩, h8⟩, h9⟩ := h
    rw [X.frames, List.length_cons] at h2 h3
    have q1 := X.heapSize
    have q2 := X.used
    simp only [hF, hU, List.length_cons, State.stackLimits_setFrames, State.stackBytes_setFrames, hl9, hb9]
    refine ⟨⟨⟨⟨by omega, by omega, by omega, by omega, by omega, h6⟩, ?_⟩, ?_⟩, X.book⟩
    · show T.heap.size + R'.cells ≤ e.platform.maxCells
      omega
    · show T.slotsUsed + R'.slots ≤ e.platform.maxSlots
      omega
  · rw [State.stackLimits_setFrames]; rfl
  · rw [State.stackBytes_setFrames]; rfl
  · refine ⟨?_, Nat.le_refl _, Nat.le_refl _, ?_, ?_, fun a c9 h9 => ⟨c9, h9, rfl, rfl, fun _ _ => rfl⟩⟩
    · obtain ⟨t, ht, -⟩ := State.frames_cons hr
      show T.setVm s.vm = { ((T.setVm s.vm).setFrames (.invoking m args :: below)).setFrames (T.setVm s.vm).frames with heap := T.heap, slotsUsed := T.slotsUsed }
      rw [State.setFrames_setFrames, State.setFrames_self ht]
      rfl
    · show T.slotsUsed = T.slotsUsed + ((T.heap.toList.drop T.heap.size).map (·.slots.size)).sum
      rw [List.drop_eq_nil_of_le (Nat.le_of_eq Array.length_toList)]
      rfl
    · show ((T.heap.toList.drop T.heap.size).map (·.slots.size)).sum ≤ 0
      rw [List.drop_eq_nil_of_le (Nat.le_of_eq Array.length_toList)]
      exact Nat.le_refl _
/-- 'throw new E()': new; dup; invokespecial; athrow -/
theorem vx_throw0 {cc : ByteArray} {pc : Nat} (hexec : p.tables.exec = Jvm.exec) (hb : c.code = cc) (hl : l.stackTraces = false) {own cls : String} {names : List String} {ik ic mc ms : Nat} {A : Nat → Prop}
    (hown : s.vm.findClass own = some m.cls) (hcls : Bundle.fit cls = true) (hnames : ∀ n ∈ names, Bundle.fit n = true)
    (hk : (Cond.classLink own ik cls).before args s = true) (hini : (Cond.initialized cls).before args s = true) (hat : ∀ w ∈ vx_at0 own ic cls names, w.before args s = true)
    (hgood : ∀ w ∈ Cond.classLink own ik cls :: Cond.initialized cls :: vx_at0 own ic cls names, vx_ot w = true)
    (hU : vx_Zq Bundle.tN "UNASSIGNED_STACK" Bundle.steD A s s.heap) (hN : vx_Zq Bundle.tN "SUPPRESSED_SENTINEL" Bundle.listD A s s.heap) (hS : va_S A s.heap H locs) (hsize : ls.size = c.maxLocals)
    (d0 : decode cc pc = .ok (.new ik, 3)) (d3 : decode cc (pc + 3) = .ok (.dup, 1)) (d4 : decode cc (pc + 4) = .ok (.invokespecial ic, 3)) (d7 : decode cc (pc + 7) = .ok (.athrow, 1))
    (hout : ∀ x ∈ c.exceptionTable.toList, covers x (pc + 7) = false)
    (hRframes : names.length + 3 < R.frames) (hRlocals : (rest.map fun v => v.category).sum + (13 * (names.length + 1) + 42) ≤ R.locals) (hRcells : cells + 1 ≤ R.cells) (hRslots : slots + 6 ≤ R.slots) (hlocks : meth.locks = false)
    (hx : ∀ t : State, s.vm.Alike t.vm → H.size ≤ t.heap.size → (∀ q : Nat, q < H.size → t.heap[q]? = H[q]?) → XC cls s t)
    (hf : ∀ z ∈ locs, free z.base) (hc : cells + 1 ≤ mc) (hs : slots + 6 ≤ ms) :
    W p l e R s m args below meth c H locs cells slots (vx_MQ below Qc XC args s mc ms free) (F0 m pc ls rest) := by
  intro T hT X
  have htr : e.platform.stackTraces = false := (show e.platform.stackTraces = l.stackTraces by rw [X.admits.platform]).trans hl
  have Y := vx_rebase X (R' := { frames := R.frames, locals := R.locals, cells := 1, slots := 6 }) (Nat.le_refl _) (Nat.le_refl _) hRcells hRslots
  obtain ⟨s', hA⟩ : ∃ z, z = (T.setVm s.vm).setFrames (.invoking m args :: below) := ⟨_, rfl⟩
  rw [← hA] at Y
  have hvm : s'.vm = s.vm := by rw [hA]; rfl
  have hhp : s'.heap = H := by rw [hA]; exact hT
  have hW0 : s.WarmedH s'.vm := by rw [hvm]; exact State.WarmedH.refl s
  have hat' : ∀ w ∈ vx_at0 own ic cls names, w.before args s' = true := fun w hw => vx_ot_at hW0 hvm.symm (hgood w (List.mem_cons_of_mem _ (List.mem_cons_of_mem _ hw))) (hat w hw)
  have hk' : (Cond.classLink own ik cls).before args s' = true := vx_ot_at hW0 hvm.symm (hgood _ List.mem_cons_self) hk
  have hini' : (Cond.initialized cls).before args s' = true := vx_ot_at hW0 hvm.symm (hgood _ (List.mem_cons_of_mem _ List.mem_cons_self)) hini
  have hU' : vx_Zq Bundle.tN "UNASSIGNED_STACK" Bundle.steD A s' s'.heap := by rw [hhp]; exact vx_Zq.moved hW0.alike (hU.kept hS.2.1)
  have hN' : vx_Zq Bundle.tN "SUPPRESSED_SENTINEL" Bundle.listD A s' s'.heap := by rw [hhp]; exact vx_Zq.moved hW0.alike (hN.kept hS.2.1)
  have h : ∀ w ∈ Bundle.ownAtoms0 own ic cls names, w.before args s' = true := vx_own hat' (vx_isRefq hU'.1) (vx_isRefq hN'.1) hU'.2.word hN'.2.word
  have hown' : s'.vm.findClass own = some m.cls := by rw [hvm]; exact hown
  have hins : (Cond.instantiable cls 6).before args s' = true := h _ (by simp [Bundle.ownAtoms0])
  obtain ⟨vm₁, cX, kX, hfX, hkX, -, -, X₁, st1⟩ := Y.newCold hexec (own := own) (C := cls) (index := ik) (n := 6) hown' hk' hins hini'
    (g := F0 m pc ls rest) rfl (by rw [hb]; exact d0) (Nat.le_refl _) (Nat.le_refl _)
  generalize hT1 : (T.setVm vm₁).pushCell { cls := cX, slots := kX.instanceTypes.map defaultValue, vm := .none } = T1 at X₁ st1
  have hcat : (Value.ref T.heap.size).category = 1 := rfl
  have hcellA : T1.heap[T.heap.size]? = some (freshCell cX kX) := by rw [← hT1]; exact State.heap_pushCell_size _ _
  have d3' : decode c.code (pc + 3) = .ok (.dup, 1) := by rw [hb]; exact d3
  obtain ⟨U, hsteps, hrun, hend, hW, hsame, ce, hce, hO⟩ := X₁.ctorThrow0 hexec htr (own := own) (cls := cls) (names := names) (ic := ic) hown' hcls hnames h (fun x hx => nomatch hx) hfX hkX hcellA (by rw [hhp, hT]; exact Nat.le_refl _)
    (g := { method := m, pc := pc + 4, locals := ls, stack := .ref T.heap.size :: .ref T.heap.size :: rest, locked := none }) rfl hsize rfl rfl (rest := rest) rfl
    (by rw [hb]; exact d4) (by rw [hb]; exact d7) hout hRframes (by simp only [List.map_cons, List.sum_cons, hcat]; omega) hlocks
  obtain ⟨f1, f2⟩ := vx_frame hsame
  rw [hhp] at f1 f2
  have hWs : s.WarmedH U.vm := State.WarmedH.trans hW0 hW
  have hcl : s.vm.findClass cls = some ce.cls := by
    have h9 := hO.cls
    rw [hvm] at h9
    exact h9
  have hall : s.sameButNew ({ U with vm := s.vm } : State) locs mc ms := by
    subst hA
    obtain ⟨e1, e2⟩ := hsame
    rw [State.setFrames_setFrames] at e1
    have h2 : (T.setVm s.vm).sameButNew ({ U with vm := s.vm } : State) [] (0 + 1) (0 + 6) := ⟨e1, e2⟩
    have h3 := X.same.trans h2
    rw [List.append_nil] at h3
    exact h3.mono hc hs
  refine ⟨U, ?_, .threw T.heap.size, hrun, hend, Or.inr ⟨T.heap.size, rfl, cls, ce, locs, hx U hWs.alike f1 (fun q hq => f2 q hq (fun z hz => nomatch hz)), hce, hO.vm, hcl, hWs, hall, hf⟩⟩
  refine st1 _ ?_
  show Steps p.tables e below (T1.setTop { method := m, pc := pc + 3, locals := ls, stack := .ref T.heap.size :: rest, locked := none }) _
  jvm_step X₁.here [X₁.here.top, hexec, d3', Value.category]
  exact hsteps
/-- 'throw new E("text")': new; dup; ldc; invokespecial; athrow -/
theorem vx_throwS {cc : ByteArray} {pc : Nat} (hexec : p.tables.exec = Jvm.exec) (hb : c.code = cc) (hl : l.stackTraces = false) {own cls text : String} {names : List String} {ik is ic mc ms sa : Nat} {A : Nat → Prop}
    (hown : s.vm.findClass own = some m.cls) (hcls : Bundle.fit cls = true) (hnames : ∀ n ∈ names, Bundle.fit n = true)
    (hk : (Cond.classLink own ik cls).before args s = true) (hini : (Cond.initialized cls).before args s = true) (hstr : vk_R own is text sa s) (hat : ∀ w ∈ vx_atS own ic cls names, w.before args s = true)
    (hgood : ∀ w ∈ Cond.classLink own ik cls :: Cond.initialized cls :: vx_atS own ic cls names, vx_ot w = true)
    (hU : vx_Zq Bundle.tN "UNASSIGNED_STACK" Bundle.steD A s s.heap) (hN : vx_Zq Bundle.tN "SUPPRESSED_SENTINEL" Bundle.listD A s s.heap) (hS : va_S A s.heap H locs) (hsize : ls.size = c.maxLocals)
    (d0 : decode cc pc = .ok (.new ik, 3)) (d3 : decode cc (pc + 3) = .ok (.dup, 1)) (d4 : decode cc (pc + 4) = .ok (.ldc is, 2)) (d6 : decode cc (pc + 6) = .ok (.invokespecial ic, 3)) (d9 : decode cc (pc + 9) = .ok (.athrow, 1))
    (hout : ∀ x ∈ c.exceptionTable.toList, covers x (pc + 9) = false)
    (hRframes : names.length + 3 < R.frames) (hRlocals : (rest.map fun v => v.category).sum + (13 * (names.length + 1) + 43) ≤ R.locals) (hRcells : cells + 1 ≤ R.cells) (hRslots : slots + 6 ≤ R.slots) (hlocks : meth.locks = false)
    (hx : ∀ t : State, s.vm.Alike t.vm → H.size ≤ t.heap.size → (∀ q : Nat, q < H.size → t.heap[q]? = H[q]?) → XC cls s t)
    (hf : ∀ z ∈ locs, free z.base) (hc : cells + 1 ≤ mc) (hs : slots + 6 ≤ ms) :
    W p l e R s m args below meth c H locs cells slots (vx_MQ below Qc XC args s mc ms free) (F0 m pc ls rest) := by
  intro T hT X
  have htr : e.platform.stackTraces = false := (show e.platform.stackTraces = l.stackTraces by rw [X.admits.platform]).trans hl
  have Y := vx_rebase X (R' := { frames := R.frames, locals := R.locals, cells := 1, slots := 6 }) (Nat.le_refl _) (Nat.le_refl _) hRcells hRslots
  obtain ⟨s', hA⟩ : ∃ z, z = (T.setVm s.vm).setFrames (.invoking m args :: below) := ⟨_, rfl⟩
  rw [← hA] at Y
  have hvm : s'.vm = s.vm := by rw [hA]; rfl
  have hhp : s'.heap = H := by rw [hA]; exact hT
  have hW0 : s.WarmedH s'.vm := by rw [hvm]; exact State.WarmedH.refl s
  have hat' : ∀ w ∈ vx_atS own ic cls names, w.before args s' = true := fun w hw => vx_ot_at hW0 hvm.symm (hgood w (List.mem_cons_of_mem _ (List.mem_cons_of_mem _ hw))) (hat w hw)
  have hk' : (Cond.classLink own ik cls).before args s' = true := vx_ot_at hW0 hvm.symm (hgood _ List.mem_cons_self) hk
  have hini' : (Cond.initialized cls).before args s' = true := vx_ot_at hW0 hvm.symm (hgood _ (List.mem_cons_of_mem _ List.mem_cons_self)) hini
  have hU' : vx_Zq Bundle.tN "UNASSIGNED_STACK" Bundle.steD A s' s'.heap := by rw [hhp]; exact vx_Zq.moved hW0.alike (hU.kept hS.2.1)
  have hN' : vx_Zq Bundle.tN "SUPPRESSED_SENTINEL" Bundle.listD A s' s'.heap := by rw [hhp]; exact vx_Zq.moved hW0.alike (hN.kept hS.2.1)
  have h : ∀ w ∈ Bundle.ownAtoms own ic cls names, w.before args s' = true := vx_own hat' (vx_isRefq hU'.1) (vx_isRefq hN'.1) hU'.2.word hN'.2.word
  have hown' : s'.vm.findClass own = some m.cls := by rw [hvm]; exact hown
  have hins : (Cond.instantiable cls 6).before args s' = true := h _ (by simp [Bundle.ownAtoms])
  obtain ⟨vm₁, cX, kX, hfX, hkX, -, -, X₁, st1⟩ := Y.newCold hexec (own := own) (C := cls) (index := ik) (n := 6) hown' hk' hins hini'
    (g := F0 m pc ls rest) rfl (by rw [hb]; exact d0) (Nat.le_refl _) (Nat.le_refl _)
  generalize hT1 : (T.setVm vm₁).pushCell { cls := cX, slots := kX.instanceTypes.map defaultValue, vm := .none } = T1 at X₁ st1
  have hcat : (Value.ref T.heap.size).category = 1 := rfl
  have hcellA : T1.heap[T.heap.size]? = some (freshCell cX kX) := by rw [← hT1]; exact State.heap_pushCell_size _ _
  have d3' : decode c.code (pc + 3) = .ok (.dup, 1) := by rw [hb]; exact d3
  have d4' : decode c.code (pc + 4) = .ok (.ldc is, 2) := by rw [hb]; exact d4
  have hstr' : vk_R own is text sa s' := vk_R.warm hW0 hstr
  obtain ⟨U, hsteps, hrun, hend, hW, hsame, ce, hce, hO⟩ := X₁.ctorThrowS hexec htr (own := own) (cls := cls) (names := names) (ic := ic) hown' hcls hnames h (fun x hx => nomatch hx) hfX hkX hcellA (by rw [hhp, hT]; exact Nat.le_refl _) (msg := .ref sa) rfl
    (g := { method := m, pc := pc + 6, locals := ls, stack := .ref sa :: .ref T.heap.size :: .ref T.heap.size :: rest, locked := none }) rfl hsize rfl rfl (rest := rest) rfl
    (by rw [hb]; exact d6) (by rw [hb]; exact d9) hout hRframes (by simp only [List.map_cons, List.sum_cons, hcat]; omega) hlocks
  obtain ⟨f1, f2⟩ := vx_frame hsame
  rw [hhp] at f1 f2
  have hWs : s.WarmedH U.vm := State.WarmedH.trans hW0 hW
  have hcl : s.vm.findClass cls = some ce.cls := by
    have h9 := hO.cls
    rw [hvm] at h9
    exact h9
  have hall : s.sameButNew ({ U with vm := s.vm } : State) locs mc ms := by
    subst hA
    obtain ⟨e1, e2⟩ := hsame
    rw [State.setFrames_setFrames] at e1
    have h2 : (T.setVm s.vm).sameButNew ({ U with vm := s.vm } : State) [] (0 + 1) (0 + 6) := ⟨e1, e2⟩
    have h3 := X.same.trans h2
    rw [List.append_nil] at h3
    exact h3.mono hc hs
  refine ⟨U, ?_, .threw T.heap.size, hrun, hend, Or.inr ⟨T.heap.size, rfl, cls, ce, locs, hx U hWs.alike f1 (fun q hq => f2 q hq (fun z hz => nomatch hz)), hce, hO.vm, hcl, hWs, hall, hf⟩⟩
  refine st1 _ ?_
  show Steps p.tables e below (T1.setTop { method := m, pc := pc + 3, locals := ls, stack := .ref T.heap.size :: rest, locked := none }) _
  jvm_step X₁.here [X₁.here.top, hexec, d3', Value.category]
  exact X₁.ldcString hexec (own := own) (text := text) (index := is) (a := sa) hown' hstr'.1 hstr'.2
    (g := { method := m, pc := pc + 4, locals := ls, stack := .ref T.heap.size :: .ref T.heap.size :: rest, locked := none }) rfl d4' _ hsteps
/-- 'throw new E("text")', the text by a wide index -/
theorem vx_throwSW {cc : ByteArray} {pc : Nat} (hexec : p.tables.exec = Jvm.exec) (hb : c.code = cc) (hl : l.stackTraces = false) {own cls text : String} {names : List String} {ik is ic mc ms sa : Nat} {A : Nat → Prop}
    (hown : s.vm.findClass own = some m.cls) (hcls : Bundle.fit cls = true) (hnames : ∀ n ∈ names, Bundle.fit n = true)
    (hk : (Cond.classLink own ik cls).before args s = true) (hini : (Cond.initialized cls).before args s = true) (hstr : vk_R own is text sa s) (hat : ∀ w ∈ vx_atS own ic cls names, w.before args s = true)
    (hgood : ∀ w ∈ Cond.classLink own ik cls :: Cond.initialized cls :: vx_atS own ic cls names, vx_ot w = true)
    (hU : vx_Zq Bundle.tN "UNASSIGNED_STACK" Bundle.steD A s s.heap) (hN : vx_Zq Bundle.tN "SUPPRESSED_SENTINEL" Bundle.listD A s s.heap) (hS : va_S A s.heap H locs) (hsize : ls.size = c.maxLocals)
    (d0 : decode cc pc = .ok (.new ik, 3)) (d3 : decode cc (pc + 3) = .ok (.dup, 1)) (d4 : decode cc (pc + 4) = .ok (.ldc_w is, 3)) (d7 : decode cc (pc + 7) = .ok (.invokespecial ic, 3)) (d10 : decode cc (pc + 10) = .ok (.athrow, 1))
    (hout : ∀ x ∈ c.exceptionTable.toList, covers x (pc + 10) = false)
    (hRframes : names.length + 3 < R.frames) (hRlocals : (rest.map fun v => v.category).sum + (13 * (names.length + 1) + 43) ≤ R.locals) (hRcells : cells + 1 ≤ R.cells) (hRslots : slots + 6 ≤ R.slots) (hlocks : meth.locks = false)
    (hx : ∀ t : State, s.vm.Alike t.vm → H.size ≤ t.heap.size → (∀ q : Nat, q < H.size → t.heap[q]? = H[q]?) → XC cls s t)
    (hf : ∀ z ∈ locs, free z.base) (hc : cells + 1 ≤ mc) (hs : slots + 6 ≤ ms) :
    W p l e R s m args below meth c H locs cells slots (vx_MQ below Qc XC args s mc ms free) (F0 m pc ls rest) := by
  intro T hT X
  have htr : e.platform.stackTraces = false := (show e.platform.stackTraces = l.stackTraces by rw [X.admits.platform]).trans hl
  have Y := vx_rebase X (R' := { frames := R.frames, locals := R.locals, cells := 1, slots := 6 }) (Nat.le_refl _) (Nat.le_refl _) hRcells hRslots
  obtain ⟨s', hA⟩ : ∃ z, z = (T.setVm s.vm).setFrames (.invoking m args :: below) := ⟨_, rfl⟩
  rw [← hA] at Y
  have hvm : s'.vm = s.vm := by rw [hA]; rfl
  have hhp : s'.heap = H := by rw [hA]; exact hT
  have hW0 : s.WarmedH s'.vm := by rw [hvm]; exact State.WarmedH.refl s
  have hat' : ∀ w ∈ vx_atS own ic cls names, w.before args s' = true := fun w hw => vx_ot_at hW0 hvm.symm (hgood w (List.mem_cons_of_mem _ (List.mem_cons_of_mem _ hw))) (hat w hw)
  have hk' : (Cond.classLink own ik cls).before args s' = true := vx_ot_at hW0 hvm.symm (hgood _ List.mem_cons_self) hk
  have hini' : (Cond.initialized cls).before args s' = true := vx_ot_at hW0 hvm.symm (hgood _ (List.mem_cons_of_mem _ List.mem_cons_self)) hini
  have hU' : vx_Zq Bundle.tN "UNASSIGNED_STACK" Bundle.steD A s' s'.heap := by rw [hhp]; exact vx_Zq.moved hW0.alike (hU.kept hS.2.1)
  have hN' : vx_Zq Bundle.tN "SUPPRESSED_SENTINEL" Bundle.listD A s' s'.heap := by rw [hhp]; exact vx_Zq.moved hW0.alike (hN.kept hS.2.1)
  have h : ∀ w ∈ Bundle.ownAtoms own ic cls names, w.before args s' = true := vx_own hat' (vx_isRefq hU'.1) (vx_isRefq hN'.1) hU'.2.word hN'.2.word
  have hown' : s'.vm.findClass own = some m.cls := by rw [hvm]; exact hown
  have hins : (Cond.instantiable cls 6).before args s' = true := h _ (by simp [Bundle.ownAtoms])
  obtain ⟨vm₁, cX, kX, hfX, hkX, -, -, X₁, st1⟩ := Y.newCold hexec (own := own) (C := cls) (index := ik) (n := 6) hown' hk' hins hini'
    (g := F0 m pc ls rest) rfl (by rw [hb]; exact d0) (Nat.le_refl _) (Nat.le_refl _)
  generalize hT1 : (T.setVm vm₁).pushCell { cls := cX, slots := kX.instanceTypes.map defaultValue, vm := .none } = T1 at X₁ st1
  have hcat : (Value.ref T.heap.size).category = 1 := rfl
  have hcellA : T1.heap[T.heap.size]? = some (freshCell cX kX) := by rw [← hT1]; exact State.heap_pushCell_size _ _
  have d3' : decode c.code (pc + 3) = .ok (.dup, 1) := by rw [hb]; exact d3
  have d4' : decode c.code (pc + 4) = .ok (.ldc_w is, 3) := by rw [hb]; exact d4
  have hstr' : vk_R own is text sa s' := vk_R.warm hW0 hstr
  obtain ⟨U, hsteps, hrun, hend, hW, hsame, ce, hce, hO⟩ := X₁.ctorThrowS hexec htr (own := own) (cls := cls) (names := names) (ic := ic) hown' hcls hnames h (fun x hx => nomatch hx) hfX hkX hcellA (by rw [hhp, hT]; exact Nat.le_refl _) (msg := .ref sa) rfl
    (g := { method := m, pc := pc + 7, locals := ls, stack := .ref sa :: .ref T.heap.size :: .ref T.heap.size :: rest, locked := none }) rfl hsize rfl rfl (rest := rest) rfl
    (by rw [hb]; exact d7) (by rw [hb]; exact d10) hout hRframes (by simp only [List.map_cons, List.sum_cons, hcat]; omega) hlocks
  obtain ⟨f1, f2⟩ := vx_frame hsame
  rw [hhp] at f1 f2
  have hWs : s.WarmedH U.vm := State.WarmedH.trans hW0 hW
  have hcl : s.vm.findClass cls = some ce.cls := by
    have h9 := hO.cls
    rw [hvm] at h9
    exact h9
  have hall : s.sameButNew ({ U with vm := s.vm } : State) locs mc ms := by
    subst hA
    obtain ⟨e1, e2⟩ := hsame
    rw [State.setFrames_setFrames] at e1
    have h2 : (T.setVm s.vm).sameButNew ({ U with vm := s.vm } : State) [] (0 + 1) (0 + 6) := ⟨e1, e2⟩
    have h3 := X.same.trans h2
    rw [List.append_nil] at h3
    exact h3.mono hc hs
  refine ⟨U, ?_, .threw T.heap.size, hrun, hend, Or.inr ⟨T.heap.size, rfl, cls, ce, locs, hx U hWs.alike f1 (fun q hq => f2 q hq (fun z hz => nomatch hz)), hce, hO.vm, hcl, hWs, hall, hf⟩⟩
  refine st1 _ ?_
  show Steps p.tables e below (T1.setTop { method := m, pc := pc + 3, locals := ls, stack := .ref T.heap.size :: rest, locked := none }) _
  jvm_step X₁.here [X₁.here.top, hexec, d3', Value.category]
  exact X₁.ldcStringW hexec (own := own) (text := text) (index := is) (a := sa) hown' hstr'.1 hstr'.2
    (g := { method := m, pc := pc + 4, locals := ls, stack := .ref T.heap.size :: .ref T.heap.size :: rest, locked := none }) rfl d4' _ hsteps
end Ends
section Bodies
variable {l : Launch}
theorem vx_ofW {y : MethodName} {ws ws' : List Cond} {rm : Room} {Pc : Array Value → State → Prop} {Qc : Array Value → State → Outcome → State → Prop} {XC : String → State → State → Prop} {mc ms : Nat} {free : Addr → Prop} {cc : ByteArray} {maxL : Nat} {ret : Option FieldType}
    (hy : plainName y.cls = true) (hw : ws = Cond.code y cc maxL ret :: ws')
    (body : ∀ p e s m args below meth c s₁, BodyLoose p l y (headSpec ws rm) cc maxL ret e s m args below meth c s₁ → c.maxLocals = maxL → (∀ x ∈ c.exceptionTable.toList, False) → Pc args s →
      W p l e (headSpec ws rm).room s m args below meth c s.heap [] 0 0 (vx_MQ below Qc XC args s mc ms free) (entryFrame m args maxL)) : vx_Met l y ws rm Pc Qc XC mc ms free := by
  refine MetFree.of_bodyS (code := cc) (maxLocals := maxL) (ret := ret) hy ?_ ?_
  · intro args s m h hn
    obtain ⟨meth, c, h1, h2, h3, h4, h5, h6, -, -⟩ := Cond.code_spec hn (atoms_spec (ws := ws) h _ (by rw [hw]; exact List.mem_cons_self))
    exact ⟨meth, c, h1, h2, h3, h4, h5, h6⟩
  · intro p e s m args below meth c s₁ B hml hP _
    have hh0 : s₁.heap = s.heap := by rw [B.state]; rfl
    have ht : ∀ x ∈ c.exceptionTable.toList, False := by
      obtain ⟨meth9, c9, h1, h2, -, -, -, -, h7, -⟩ := Cond.code_spec B.named (atoms_spec (ws := ws) B.pre _ (by rw [hw]; exact List.mem_cons_self))
      cases Option.some.inj (h1.symm.trans B.method)
      cases Option.some.inj (h2.symm.trans (Stand.of_body B).code)
      intro x hx
      rw [Array.isEmpty_iff.mp h7] at hx
      cases hx
    obtain ⟨t, a1, o, b1, b2, b3⟩ := body p e s m args below meth c s₁ B hml ht hP s₁ hh0 (Stand.of_body B)
    exact ⟨t, o, a1, b1, b2, b3⟩
/-- the table of a body with handlers -/
theorem vx_table {p : Program} {x y : MethodName} {S : Spec} {cc bytes : ByteArray} {maxL maxL' : Nat} {ret ret' : Option FieldType} {e : Env} {s s₁ : State} {m : MethodId} {args : Array Value} {below : List Frame} {meth : Method} {c : Code} {hh : List (Nat × Nat × Nat × Nat)}
    (B : BodyLoose p l y S cc maxL ret e s m args below meth c s₁) (h : (Cond.codeWith y bytes maxL' ret' hh).before args s = true) : c.exceptionTable.toList = tableOf hh := by
  obtain ⟨m9, meth9, c9, hn9, h1, h2, -, -, h6, -⟩ := Cond.codeWith_spec h
  cases Option.some.inj (hn9.symm.trans B.named)
  cases Option.some.inj (h1.symm.trans B.method)
  cases Option.some.inj (h2.symm.trans (Stand.of_body B).code)
  rw [← h6, table_eq]
end Bodies
end VXA
/-! ===== END ===== -/
/-! ===== BEGIN a static call of a method with an exception table ===== -/
section VXS
variable {p : Program} {l : Launch} {e : Env} {R : Room} {s : State} {m : MethodId} {args : Array Value} {below : List Frame} {meth : Method} {c : Code} {T : State} {H : Heap} {locs : List Loc} {cells slots : Nat}
abbrev vx_CSW (R : Room) (s : State) (args : Array Value) (own : String) (index : Nat) (y : MethodName) (bytes : ByteArray) (maxL : Nat) (ret : Option FieldType) (hh : List (Nat × Nat × Nat × Nat)) (ws : List Cond) (rm : Room) (mc ms n : Nat) : Prop :=
  (rm.cells = mc ∧ rm.slots = ms ∧ rm.frames + 1 ≤ R.frames ∧ 8 + (maxL + 11) + rm.locals ≤ R.locals ∧ (∀ w ∈ ws, ∀ (a' : Array Value) (U : State), s.WarmedH U.vm → w.before a' U = true) ∧ Cond.codeWith y bytes maxL ret hh ∈ ws) ∧
  (Cond.codeWith y bytes maxL ret hh).before args s = true ∧ (Cond.initialized y.cls).before args s = true ∧ (y.cls ≠ "java/lang/invoke/MethodHandle" ∧ y.cls ≠ "java/lang/invoke/VarHandle") ∧
  (∀ sig, parseMethodDescriptor y.desc = some sig → n = sig.parameters.length) ∧ (Cond.methodLink own index y).before args s = true ∧ (Cond.static y).before args s = true
theorem vx_cwSW {own : String} {index maxL mc ms : Nat} {y : MethodName} {bytes : ByteArray} {ret : Option FieldType} {hh : List (Nat × Nat × Nat × Nat)} {Ts ws ws' : List Cond} {rm : Room} (n : Nat) (ht : ∀ w ∈ Ts, w.before args s = true) (hT : GoodIn Ts (va_wsS own index y ws)) (hw : ws = Cond.codeWith y bytes maxL ret hh :: ws') (hrc : rm.cells = mc) (hrs : rm.slots = ms)
    (hd : y.cls ≠ "java/lang/invoke/MethodHandle" ∧ y.cls ≠ "java/lang/invoke/VarHandle" ∧ (parseMethodDescriptor y.desc).map (fun d => d.parameters.length) = some n) (hR : rm.frames + 1 ≤ R.frames ∧ 8 + (maxL + 11) + rm.locals ≤ R.locals) :
    vx_CSW R s args own index y bytes maxL ret hh ws rm mc ms n := by
  have ok : ∀ w ∈ va_wsS own index y ws, w.before args s = true := fun w h => ht w (hT w h).1
  have hG : GoodIn Ts ws := fun w h => hT w (by unfold va_wsS; exact List.mem_append_right _ h)
  have hc : Cond.codeWith y bytes maxL ret hh ∈ ws := by rw [hw]; exact List.mem_cons_self
  refine ⟨⟨hrc, hrs, hR.1, hR.2, pay_in ht hG, hc⟩, ht _ (hG _ hc).1, ok _ (by simp [va_wsS]), ⟨hd.1, hd.2.1⟩, fun sig h => ?_, ok _ (by simp [va_wsS]), ok _ (by simp [va_wsS])⟩
  have h2 := hd.2.2
  rw [h] at h2
  exact (Option.some.inj h2).symm
theorem vx_callSW (X : Stand p l e R s m args below meth c T locs cells slots) (hexec : p.tables.exec = Jvm.exec) {own : String} {index : Nat} {y : MethodName} {bytes : ByteArray} {maxL : Nat} {ret : Option FieldType} {hh : List (Nat × Nat × Nat × Nat)}
    (hown : s.vm.findClass own = some m.cls) (hlink : (Cond.methodLink own index y).before args s = true) (hstat : (Cond.static y).before args s = true) (hinit : (Cond.initialized y.cls).before args s = true)
    (hcode : (Cond.codeWith y bytes maxL ret hh).before args s = true) (hy : y.cls ≠ "java/lang/invoke/MethodHandle" ∧ y.cls ≠ "java/lang/invoke/VarHandle")
    {W9 : Nat} {Pre : Pt → Array Value → Prop} {Post : Pt → Array Value → Option Value → Pt → Prop} (hK : Back l R p e below s args y 3 W9 Pre Post)
    {g : JFrame} (hg : g.method = m) (hsize : g.locals.size = c.maxLocals) {argsL rest : List Value} (hlen : ∀ sig, parseMethodDescriptor y.desc = some sig → argsL.length = sig.parameters.length)
    (hstack : g.stack = argsL.reverse ++ rest) (hW : 2 * g.monitorRoom + (rest.map fun v => v.category).sum ≤ W9) (hdg : decode c.code g.pc = .ok (.invokestatic index, 3))
    (hpre : ∀ vm₁, s.WarmedH vm₁ → Pre ⟨T.setVm vm₁, locs, cells, slots⟩ argsL.toArray) :
    ∃ (v : Option Value) (vm₁ : Vm) (B : Pt), s.WarmedH vm₁ ∧ Stand p l e R s m args below meth c B.U B.locs B.cells B.slots ∧ Post ⟨T.setVm vm₁, locs, cells, slots⟩ argsL.toArray v B ∧
      ∀ target, Steps p.tables e below (B.U.setTop { g with pc := g.pc + 3, stack := v.toList ++ rest }) target → Steps p.tables e below (T.setTop g) target := by
  obtain ⟨mk, methM, cM, hnamed, hmethM, -, -, -, -, -, -, hsigM⟩ := Cond.codeWith_spec hcode
  have hstatic : methM.isStatic = true := Cond.static_spec hnamed hmethM hstat
  obtain ⟨kP, hkP, -⟩ := className_of_methodNamed hnamed
  have hinitP : kP.init = .initialized := Cond.initialized_spec (findClass_of_methodNamed hnamed) hkP hinit
  obtain ⟨vm₁, X₁, hstep₁⟩ := X.invokestatic hexec hown hlink hnamed hmethM hstatic hkP hinitP hy (g := g) hg (argsL := argsL) (rest := rest) (hlen _ hsigM) hstack hdg
  obtain ⟨v, B, X', hpost, hsteps⟩ := hK m meth c ⟨T.setVm vm₁, locs, cells, slots⟩ { g with stack := rest } (.invokestatic index) mk argsL.toArray X₁ hg hsize hdg hW (X₁.named hnamed) (hpre vm₁ X₁.warmed)
  exact ⟨v, vm₁, B, X₁.warmed, X', hpost, fun target h => hstep₁ _ fun acts => by rw [doInvoke_state]; exact hsteps.trans h⟩
theorem vx_runSW {y : MethodName} {bytes cc : ByteArray} {maxL nL mc ms n index : Nat} {ret : Option FieldType} {hh : List (Nat × Nat × Nat × Nat)} {ws : List Cond} {rm : Room} {Pc : Array Value → State → Prop} {Qc : Array Value → State → Outcome → State → Prop} {free : Addr → Prop} {Ts : List Cond} {own : String} {As rest : List Value} {g : JFrame}
    (S : CallFix p m c cc nL s args Ts own) (hM : Met l y ws rm Pc Qc mc ms free) (cw : vx_CSW R s args own index y bytes maxL ret hh ws rm mc ms n) (hp : PreS s H Pc As)
    (hg : g.method = m) (hn : As.length = n) (hsize : g.locals.size = nL) (hstack : g.stack = As.reverse ++ rest) (hW : 2 * g.monitorRoom + (rest.map fun v => v.category).sum ≤ 8) (hdg : decode cc g.pc = .ok (.invokestatic index, 3)) (hf : cells + mc ≤ R.cells ∧ slots + ms ≤ R.slots) :
    va_Run p l e R s m args below meth c H locs cells slots mc ms g rest (Qc As.toArray) (free) := by
  obtain ⟨⟨hrc, hrs, hfr, hlo, hws, hcw⟩, hcode, hini, hy, hlen, hl, hstt⟩ := cw
  have hK : Back l R p e below s args y 3 8 (PreOf R mc ms Pc) (PostOf Qc mc ms free) := va_backW (hh := hh) (bytes := bytes) (maxL := maxL) (ret := ret) hM hp.1 hrc hrs hfr hlo hws hcw (fun a' U hW => word_at hW (Or.inl (by first | rfl | simp [Cond.onTables, Cond.keeps, Cond.steady])) hini)
  obtain ⟨hx, hb, hml, ho, -⟩ := S
  intro T hT X
  obtain ⟨v, vm₁, ⟨U', l2, c2, s2⟩, hW₁, X', ⟨g', mk, t, L, e1, e2, hq, h1, hL, h2, h3⟩, st⟩ := vx_callSW X hx (hh := hh) (bytes := bytes) (maxL := maxL) (ret := ret) ho hl hstt hini hcode hy hK hg (hsize.trans hml.symm) (argsL := As) (rest := rest) (fun sig h => hn.trans (hlen sig h)) hstack hW (by rw [hb]; exact hdg)
    (fun vm₁ hW₁ => ⟨hf.1, hf.2, hp.2 (T.setVm vm₁) hT hW₁⟩)
  dsimp only [Pt.U, Pt.locs, Pt.cells, Pt.slots] at X' e1 e2 h1 h2 h3 st
  subst h1; subst h2; subst h3
  exact ⟨v, (T.setVm vm₁).calling g' mk As.toArray, t, U', L, hT, X', hL, e1, e2, hq, st⟩
/-- not caught here, past rows that name other classes: it goes on to the caller -/
theorem vx_outP {p : Program} {l : Launch} {e : Env} {R : Room} {s : State} {m : MethodId} {args : Array Value} {below : List Frame} {meth : Method} {c : Code} {H : Heap} {locs : List Loc} {cells slots : Nat} {free : Addr → Prop} {ls : Array Slot} {rest : List Value} {Qc : Array Value → State → Outcome → State → Prop} {XC : String → State → State → Prop}
    {pc : Nat} {own E : String} {ce : Cell} {q : Addr} {mc ms : Nat} (hown : s.vm.findClass own = some m.cls) (hlocks : meth.locks = false)
    (hpass : ∀ z ∈ c.exceptionTable.toList, covers z pc = false ∨ (z.catchType ≠ 0 ∧ ∃ nm : String, (Cond.classLink own z.catchType nm).before args s = true ∧ va_Nc E nm s)) (hcell : H[q]? = some ce) (hv : ce.vm = .none) (hcl : s.vm.findClass E = some ce.cls)
    (hx : ∀ t : State, t.heap = H → s.vm.Alike t.vm → XC E s t) (hf : ∀ z ∈ locs, free z.base) (hc : cells ≤ mc) (hs : slots ≤ ms) :
    vx_W p l e R s m args below meth c H locs cells slots (vx_MQ below Qc XC args s mc ms free) (F0 m pc ls rest) q := by
  intro T hT X
  have hpl : e.platform.magicAccessors = ({} : Platform).magicAccessors := by rw [X.admits.platform]
  obtain ⟨vm', hW', X', st⟩ := X.outThrough hlocks q (g := F0 m pc ls rest) rfl rfl rfl (cell := ce) (by rw [hT]; exact hcell) (by rw [hv]; rfl)
    (by obtain ⟨k9, h9, -⟩ := Vm.findClass_spec hcl; exact ⟨k9, h9⟩) (fun z hz => by
      rcases hpass z hz with h | ⟨hz0, nm, hl1, hn1⟩
      · exact Or.inl h
      · obtain ⟨c6, hc6, hcl6⟩ := Cond.classLink_spec hown hl1 e.platform hpl
        obtain ⟨a8, b8, h1, h2, h3⟩ := hn1
        cases Option.some.inj (h1.symm.trans hcl)
        cases Option.some.inj (h2.symm.trans hc6)
        exact Or.inr ⟨hz0, _, hcl6, h3⟩)
  obtain ⟨g₀, hfr⟩ := X'.frames_eq
  have hcell9 : ((T.setVm vm').setFrames (.throwing q :: below)).heap[q]? = some ce := by
    show T.heap[q]? = some ce
    rw [hT]; exact hcell
  have hend : Ended ((T.setVm vm').setFrames (.throwing q :: below)) below (.threw q) := State.frames_setFrames _ (State.cur_lt_of_frames hfr)
  refine ⟨(T.setVm vm').setFrames (.throwing q :: below), ?_, .threw q, X'.here.running, hend, Or.inr ⟨q, rfl, E, ce, locs, hx _ hT (X'.ends _).1.alike, hcell9, hv, hcl, (X'.ends _).1, (X'.ends _).2.mono hc hs, hf⟩⟩
  rw [X.pushThrowing_eq]
  exact st
/-- a thing of a world lies in the heap -/
theorem vx_lt {D : va_G} {cl : List vw_C} {ws : va_W} {H1 : Heap} (h : va_P D cl ws H1) {k : Nat} {q : Nat × va_E} (hk : ws[k]? = some q) : q.1 < H1.size := (h k q hk).lt
end VXS
/-! ===== END ===== -/
/-! ===== BEGIN methods with a table of their own: called by a name, returning or throwing ===== -/
section VXH
/-! vx_backW, vx_callVX, vx_callSX, vx_callVW, vx_runVW, vx_runVX, vx_runSX, vx_ofWH follow the same proofs as their sisters above (Free/Laws.lean, Shelf42/LK1.lean); vx_outP calls Shelf42/NT130.lean (outThrough). -/
section
variable {l : Launch} {R : Room} {p : Program} {e : Env} {below : List Frame} {s : State} {sargs : Array Value} {y : MethodName} {len W9 : Nat}
theorem vx_backW {ws : List Cond} {rm : Room} {Pc : Array Value → State → Prop} {Qc : Array Value → State → Outcome → State → Prop} {XC : String → State → State → Prop} {mc ms : Nat} {free : Addr → Prop} {bytes : ByteArray} {maxL : Nat} {ret : Option FieldType} {hh : List (Nat × Nat × Nat × Nat)}
    (hM : vx_Met l y ws rm Pc Qc XC mc ms free) (hblind : FrameBlind Pc) (hrc : rm.cells = mc) (hrs : rm.slots = ms)
    (hframes : rm.frames + 1 ≤ R.frames) (hlocals : W9 + (maxL + 11) + rm.locals ≤ R.locals)
    (hws : ∀ w ∈ ws, ∀ a' U, s.WarmedH U.vm → w.before a' U = true) (hcode : Cond.codeWith y bytes maxL ret hh ∈ ws) (hinit : ∀ a' U, s.WarmedH U.vm → (Cond.initialized y.cls).before a' U = true) :
    vx_Back l R p e below s sargs y len W9 (PreOf R mc ms Pc) (PostOf Qc mc ms free) (vx_Post XC mc ms free) := by
  intro m meth c A g ig mk a X hg hsize hdg hW hn hp
  have h1 : (headSpec ws rm).pre.before a A.U = true := atoms_intro fun w hw => hws w hw _ _ X.warmed
  have h2 : (Cond.codeWith y bytes maxL ret hh).before a A.U = true := hws _ hcode _ _ X.warmed
  have h3 : (Cond.initialized y.cls).before a A.U = true := hinit _ _ X.warmed
  have h4 : A.cells + (headSpec ws rm).room.cells ≤ R.cells := by rw [show (headSpec ws rm).room.cells = mc from hrc]; exact hp.1
  have h5 : A.slots + (headSpec ws rm).room.slots ≤ R.slots := by rw [show (headSpec ws rm).room.slots = ms from hrs]; exact hp.2.1
  have hPc : Pc a (A.U.calling g mk a) := hblind _ _ _ _ hp.2.2
  obtain ⟨U, Ls, c0, s0⟩ := A
  dsimp only [Pt.U, Pt.locs, Pt.cells, Pt.slots] at h1 h2 h3 h4 h5 X hn hPc ⊢
  obtain ⟨m9, methY, cY, hn9, hmY, hcY, -, hlY, -⟩ := Cond.codeWith_spec h2
  cases Option.some.inj (hn9.symm.trans hn)
  obtain ⟨kY, hkY, -⟩ := className_of_methodNamed hn
  have hinitY : kY.init = .initialized := Cond.initialized_spec (findClass_of_methodNamed hn) hkY h3
  have h : At U g.method c below := by rw [hg]; exact X.here
  have hlocals9 : W9 + (maxL + 11) + (headSpec ws rm).room.locals ≤ R.locals := hlocals
  have happ : (headSpec ws rm).appliesLoose y e.platform (U.calling g mk a) = true :=
    Spec.appliesLoose_calling (g := g) h hdg hn hkY hinitY
      (X.room_calling (g := g) (R' := (headSpec ws rm).room) hsize hmY hcY hframes (by rw [hlY]; omega) h4 h5) h1
  obtain ⟨mid, hmid⟩ := h.above
  have hfr : (U.setTop g).frames = (.java g :: mid) ++ below := by rw [State.frames_setTop' g h.top, hmid]; rfl
  obtain ⟨o, s₂, hsteps, -, hend, hq⟩ := Steps.callFree hM p X.admits X.cas X.clock (acts := []) hfr happ hPc trivial
  have hq' : vx_Q Qc XC mc ms free a (U.calling g mk a) o s₂ := hq
  rw [State.frames_setTop' g h.top] at hend
  obtain ⟨g₀, hg0⟩ := Option.isSome_iff_exists.mp h.top
  obtain ⟨r, hr⟩ := State.topJava?_eq_some.mp hg0
  have hr' : (({ U with heap := s₂.heap, slotsUsed := s₂.slotsUsed } : State).setVm s₂.vm).frames = .java g₀ :: r := hr
  rcases hq' with ⟨hqc, L, hfe, hL⟩ | ⟨q, rfl, E, ce, L, hx, hce, hcv, hcl, hW₂, hsm, hL⟩
  · obtain ⟨⟨v, rfl⟩, hW₂, e2, q2, q3, q4, q5, q6⟩ := id hfe
    have e3 : s₂ = ({ (U.calling g mk a).setFrames s₂.frames with heap := s₂.heap, slotsUsed := s₂.slotsUsed } : State).setVm s₂.vm := by
      have : s₂ = ({ s₂ with vm := (U.calling g mk a).vm } : State).setVm s₂.vm := rfl
      rw [e2] at this
      exact this
    obtain ⟨c₂, i₂, len₂, hc₂, hd₂, hf₂⟩ := hend
    have hW' : U.WarmedH s₂.vm := hW₂
    have hcc : c₂ = c := by
      have h1 : s₂.code? g.method = U.code? g.method := by
        rw [State.code?_eq, State.code?_eq, hW'.alike.method?]
      exact Option.some.inj (hc₂.symm.trans (h1.trans h.code))
    subst hcc
    have hlen : len₂ = len := by rw [hdg] at hd₂; cases hd₂; rfl
    subst hlen
    have hs₂ : s₂ = (({ U with heap := s₂.heap, slotsUsed := s₂.slotsUsed } : State).setVm s₂.vm).setTop { g with pc := g.pc + len₂, stack := v.toList ++ g.stack } := by
      refine e3.trans ?_
      rw [hf₂, State.calling_eq h.top, State.setFrames_setFrames, State.setTop_of_frames _ hr', hr]
      rfl
    have hsame : U.sameButNew ({ U with heap := s₂.heap, slotsUsed := s₂.slotsUsed } : State) L mc ms := by
      refine ⟨?_, q2, q3, q4, q5, q6⟩
      obtain ⟨t, ht, -⟩ := State.frames_cons hr
      show ({ U with heap := s₂.heap, slotsUsed := s₂.slotsUsed } : State) = { U.setFrames U.frames with heap := s₂.heap, slotsUsed := s₂.slotsUsed }
      rw [State.setFrames_self ht]
    subst hg
    refine Or.inl ⟨v, ⟨(({ U with heap := s₂.heap, slotsUsed := s₂.slotsUsed } : State).setVm s₂.vm), Ls ++ L, c0 + mc, s0 + ms⟩,
      ⟨X.admits, X.cas, X.clock, X.frames, X.room, X.hears, X.method, X.code, (X.here.setHeapUsed s₂.heap s₂.slotsUsed).setVm hW'.alike, X.tail, State.WarmedH.trans X.warmed hW', X.limits, X.bytes, X.same.trans (hsame.setVm s.vm)⟩,
      ⟨g, mk, s₂, L, rfl, rfl, hqc, rfl, hL, rfl, rfl⟩, ?_⟩
    show Steps p.tables e below _ ((({ U with heap := s₂.heap, slotsUsed := s₂.slotsUsed } : State).setVm s₂.vm).setTop { g with pc := g.pc + len₂, stack := v.toList ++ g.stack })
    rw [← hs₂]
    exact hsteps
  · obtain ⟨e2, q2, q3, q4, q5, q6⟩ := id hsm
    have e3 : s₂ = ({ (U.calling g mk a).setFrames s₂.frames with heap := s₂.heap, slotsUsed := s₂.slotsUsed } : State).setVm s₂.vm := by
      have : s₂ = ({ s₂ with vm := (U.calling g mk a).vm } : State).setVm s₂.vm := rfl
      rw [e2] at this
      exact this
    have hf₂ : s₂.frames = .throwing q :: .java g :: U.frames.tail := hend
    have hW' : U.WarmedH s₂.vm := hW₂
    have hs₂ : s₂ = ((({ U with heap := s₂.heap, slotsUsed := s₂.slotsUsed } : State).setVm s₂.vm).setTop g).pushFrame (.throwing q) := by
      refine e3.trans ?_
      rw [hf₂, State.calling_eq h.top, State.setFrames_setFrames, State.pushFrame, State.frames_setTop _ hr', State.setTop_of_frames _ hr', State.setFrames_setFrames, hr]
      rfl
    have hsame : U.sameButNew ({ U with heap := s₂.heap, slotsUsed := s₂.slotsUsed } : State) L mc ms := by
      refine ⟨?_, q2, q3, q4, q5, q6⟩
      obtain ⟨t, ht, -⟩ := State.frames_cons hr
      show ({ U with heap := s₂.heap, slotsUsed := s₂.slotsUsed } : State) = { U.setFrames U.frames with heap := s₂.heap, slotsUsed := s₂.slotsUsed }
      rw [State.setFrames_self ht]
    subst hg
    refine Or.inr ⟨q, ⟨(({ U with heap := s₂.heap, slotsUsed := s₂.slotsUsed } : State).setVm s₂.vm), Ls ++ L, c0 + mc, s0 + ms⟩,
      ⟨X.admits, X.cas, X.clock, X.frames, X.room, X.hears, X.method, X.code, (X.here.setHeapUsed s₂.heap s₂.slotsUsed).setVm hW'.alike, X.tail, State.WarmedH.trans X.warmed hW', X.limits, X.bytes, X.same.trans (hsame.setVm s.vm)⟩,
      ⟨g, mk, s₂, L, E, ce, rfl, rfl, hx, hce, hcv, hcl, rfl, hL, rfl, rfl⟩, ?_⟩
    show Steps p.tables e below _ (((({ U with heap := s₂.heap, slotsUsed := s₂.slotsUsed } : State).setVm s₂.vm).setTop g).pushFrame (.throwing q))
    rw [← hs₂]
    exact hsteps
end
variable {p : Program} {l : Launch} {e : Env} {R : Room} {s : State} {m : MethodId} {args : Array Value} {below : List Frame} {meth : Method} {c : Code} {T : State} {H : Heap} {locs : List Loc} {cells slots : Nat}
theorem vx_callVX (X : Stand p l e R s m args below meth c T locs cells slots) (hexec : p.tables.exec = Jvm.exec) {own C : String} {index : Nat} {y : MethodName} {bytes : ByteArray} {maxL : Nat} {ret : Option FieldType} {hh : List (Nat × Nat × Nat × Nat)}
    (hown : s.vm.findClass own = some m.cls) (hlink : (Cond.methodLink own index y).before args s = true) (hinst : (Cond.instanceMethod y).before args s = true) (hsel : (Cond.selects C y y).before args s = true)
    (hcode : (Cond.codeWith y bytes maxL ret hh).before args s = true) (hy : y.cls ≠ "java/lang/invoke/MethodHandle" ∧ y.cls ≠ "java/lang/invoke/VarHandle")
    {W9 : Nat} {Pre : Pt → Array Value → Prop} {Post : Pt → Array Value → Option Value → Pt → Prop} {PostX : Pt → Array Value → Addr → Pt → Prop} (hK : vx_Back l R p e below s args y 3 W9 Pre Post PostX)
    {b : Addr} {cellB : Cell} (hcell : T.heap[b]? = some cellB) (hobj : cellB.vm.isStatics = false) (hcls : s.vm.findClass C = some cellB.cls)
    {g : JFrame} (hg : g.method = m) (hsize : g.locals.size = c.maxLocals) {argsL rest : List Value} (hlen : ∀ sig, parseMethodDescriptor y.desc = some sig → argsL.length = sig.parameters.length)
    (hstack : g.stack = argsL.reverse ++ .ref b :: rest) (hW : 2 * g.monitorRoom + (rest.map fun v => v.category).sum ≤ W9) (hdg : decode c.code g.pc = .ok (.invokevirtual index, 3))
    (hpre : ∀ vm₁, s.WarmedH vm₁ → Pre ⟨T.setVm vm₁, locs, cells, slots⟩ (Value.ref b :: argsL).toArray) :
    (∃ (v : Option Value) (vm₁ : Vm) (B : Pt), s.WarmedH vm₁ ∧ Stand p l e R s m args below meth c B.U B.locs B.cells B.slots ∧ Post ⟨T.setVm vm₁, locs, cells, slots⟩ (Value.ref b :: argsL).toArray v B ∧
      ∀ target, Steps p.tables e below (B.U.setTop { g with pc := g.pc + 3, stack := v.toList ++ rest }) target → Steps p.tables e below (T.setTop g) target) ∨
    (∃ (q : Addr) (vm₁ : Vm) (B : Pt), s.WarmedH vm₁ ∧ Stand p l e R s m args below meth c B.U B.locs B.cells B.slots ∧ PostX ⟨T.setVm vm₁, locs, cells, slots⟩ (Value.ref b :: argsL).toArray q B ∧
      Steps p.tables e below (T.setTop g) ((B.U.setTop { g with stack := rest }).pushFrame (.throwing q))) := by
  obtain ⟨mk, methM, hnamed, hmethM, hstM, habM⟩ := Cond.instanceMethod_spec hinst
  obtain ⟨m8, methM', cM, hn8, hmethM', -, -, -, -, -, -, hsigM⟩ := Cond.codeWith_spec hcode
  cases Option.some.inj (hn8.symm.trans hnamed)
  cases hmethM.symm.trans hmethM'
  obtain ⟨c2, r2, m2, q1, q2, q3, q4, kP, hkP, hkPi⟩ := Cond.selects_spec hsel
  cases hcls.symm.trans q1
  cases (State.methodFound?_of_named hnamed hy).symm.trans q2
  cases hnamed.symm.trans q3
  have hselP : selectMethod e.platform s.vm cellB.cls mk = .method mk := by rw [Launch.admits_selectMethod X.admits]; exact q4
  obtain ⟨vm₁, X₁, hstep₁⟩ := X.invokevirtual hexec hown hlink hnamed hmethM hstM hkP hkPi hy (a := b) (cell := cellB) hcell
    (fun z h => by rw [h] at hobj; cases hobj) hselP hmethM habM hkP hkPi (g := g) hg (argsL := argsL) (rest := rest) (hlen _ hsigM) hstack hdg
  rcases hK m meth c ⟨T.setVm vm₁, locs, cells, slots⟩ { g with stack := rest } (.invokevirtual index) mk (Value.ref b :: argsL).toArray X₁ hg hsize hdg hW (X₁.named hnamed) (hpre vm₁ X₁.warmed) with ⟨v, B, X', hpost, hsteps⟩ | ⟨q, B, X', hpost, hsteps⟩
  · exact Or.inl ⟨v, vm₁, B, X₁.warmed, X', hpost, fun target h => hstep₁ _ fun acts => by rw [doInvoke_state]; exact hsteps.trans h⟩
  · exact Or.inr ⟨q, vm₁, B, X₁.warmed, X', hpost, hstep₁ _ fun acts => by rw [doInvoke_state]; exact hsteps⟩
theorem vx_callSX (X : Stand p l e R s m args below meth c T locs cells slots) (hexec : p.tables.exec = Jvm.exec) {own : String} {index : Nat} {y : MethodName} {bytes : ByteArray} {maxL : Nat} {ret : Option FieldType} {hh : List (Nat × Nat × Nat × Nat)}
    (hown : s.vm.findClass own = some m.cls) (hlink : (Cond.methodLink own index y).before args s = true) (hstat : (Cond.static y).before args s = true) (hinit : (Cond.initialized y.cls).before args s = true)
    (hcode : (Cond.codeWith y bytes maxL ret hh).before args s = true) (hy : y.cls ≠ "java/lang/invoke/MethodHandle" ∧ y.cls ≠ "java/lang/invoke/VarHandle")
    {W9 : Nat} {Pre : Pt → Array Value → Prop} {Post : Pt → Array Value → Option Value → Pt → Prop} {PostX : Pt → Array Value → Addr → Pt → Prop} (hK : vx_Back l R p e below s args y 3 W9 Pre Post PostX)
    {g : JFrame} (hg : g.method = m) (hsize : g.locals.size = c.maxLocals) {argsL rest : List Value} (hlen : ∀ sig, parseMethodDescriptor y.desc = some sig → argsL.length = sig.parameters.length)
    (hstack : g.stack = argsL.reverse ++ rest) (hW : 2 * g.monitorRoom + (rest.map fun v => v.category).sum ≤ W9) (hdg : decode c.code g.pc = .ok (.invokestatic index, 3))
    (hpre : ∀ vm₁, s.WarmedH vm₁ → Pre ⟨T.setVm vm₁, locs, cells, slots⟩ argsL.toArray) :
    (∃ (v : Option Value) (vm₁ : Vm) (B : Pt), s.WarmedH vm₁ ∧ Stand p l e R s m args below meth c B.U B.locs B.cells B.slots ∧ Post ⟨T.setVm vm₁, locs, cells, slots⟩ argsL.toArray v B ∧
      ∀ target, Steps p.tables e below (B.U.setTop { g with pc := g.pc + 3, stack := v.toList ++ rest }) target → Steps p.tables e below (T.setTop g) target) ∨
    (∃ (q : Addr) (vm₁ : Vm) (B : Pt), s.WarmedH vm₁ ∧ Stand p l e R s m args below meth c B.U B.locs B.cells B.slots ∧ PostX ⟨T.setVm vm₁, locs, cells, slots⟩ argsL.toArray q B ∧
      Steps p.tables e below (T.setTop g) ((B.U.setTop { g with stack := rest }).pushFrame (.throwing q))) := by
  obtain ⟨mk, methM, cM, hnamed, hmethM, -, -, -, -, -, -, hsigM⟩ := Cond.codeWith_spec hcode
  have hstatic : methM.isStatic = true := Cond.static_spec hnamed hmethM hstat
  obtain ⟨kP, hkP, -⟩ := className_of_methodNamed hnamed
  have hinitP : kP.init = .initialized := Cond.initialized_spec (findClass_of_methodNamed hnamed) hkP hinit
  obtain ⟨vm₁, X₁, hstep₁⟩ := X.invokestatic hexec hown hlink hnamed hmethM hstatic hkP hinitP hy (g := g) hg (argsL := argsL) (rest := rest) (hlen _ hsigM) hstack hdg
  rcases hK m meth c ⟨T.setVm vm₁, locs, cells, slots⟩ { g with stack := rest } (.invokestatic index) mk argsL.toArray X₁ hg hsize hdg hW (X₁.named hnamed) (hpre vm₁ X₁.warmed) with ⟨v, B, X', hpost, hsteps⟩ | ⟨q, B, X', hpost, hsteps⟩
  · exact Or.inl ⟨v, vm₁, B, X₁.warmed, X', hpost, fun target h => hstep₁ _ fun acts => by rw [doInvoke_state]; exact hsteps.trans h⟩
  · exact Or.inr ⟨q, vm₁, B, X₁.warmed, X', hpost, hstep₁ _ fun acts => by rw [doInvoke_state]; exact hsteps⟩
theorem vx_callVW (X : Stand p l e R s m args below meth c T locs cells slots) (hexec : p.tables.exec = Jvm.exec) {own C : String} {index : Nat} {y : MethodName} {bytes : ByteArray} {maxL : Nat} {ret : Option FieldType} {hh : List (Nat × Nat × Nat × Nat)}
    (hown : s.vm.findClass own = some m.cls) (hlink : (Cond.methodLink own index y).before args s = true) (hinst : (Cond.instanceMethod y).before args s = true) (hsel : (Cond.selects C y y).before args s = true)
    (hcode : (Cond.codeWith y bytes maxL ret hh).before args s = true) (hy : y.cls ≠ "java/lang/invoke/MethodHandle" ∧ y.cls ≠ "java/lang/invoke/VarHandle")
    {W9 : Nat} {Pre : Pt → Array Value → Prop} {Post : Pt → Array Value → Option Value → Pt → Prop} (hK : Back l R p e below s args y 3 W9 Pre Post)
    {b : Addr} {cellB : Cell} (hcell : T.heap[b]? = some cellB) (hobj : cellB.vm.isStatics = false) (hcls : s.vm.findClass C = some cellB.cls)
    {g : JFrame} (hg : g.method = m) (hsize : g.locals.size = c.maxLocals) {argsL rest : List Value} (hlen : ∀ sig, parseMethodDescriptor y.desc = some sig → argsL.length = sig.parameters.length)
    (hstack : g.stack = argsL.reverse ++ .ref b :: rest) (hW : 2 * g.monitorRoom + (rest.map fun v => v.category).sum ≤ W9) (hdg : decode c.code g.pc = .ok (.invokevirtual index, 3))
    (hpre : ∀ vm₁, s.WarmedH vm₁ → Pre ⟨T.setVm vm₁, locs, cells, slots⟩ (Value.ref b :: argsL).toArray) :
    ∃ (v : Option Value) (vm₁ : Vm) (B : Pt), s.WarmedH vm₁ ∧ Stand p l e R s m args below meth c B.U B.locs B.cells B.slots ∧ Post ⟨T.setVm vm₁, locs, cells, slots⟩ (Value.ref b :: argsL).toArray v B ∧
      ∀ target, Steps p.tables e below (B.U.setTop { g with pc := g.pc + 3, stack := v.toList ++ rest }) target → Steps p.tables e below (T.setTop g) target := by
  obtain ⟨mk, methM, hnamed, hmethM, hstM, habM⟩ := Cond.instanceMethod_spec hinst
  obtain ⟨m8, methM', cM, hn8, hmethM', -, -, -, -, -, -, hsigM⟩ := Cond.codeWith_spec hcode
  cases Option.some.inj (hn8.symm.trans hnamed)
  cases hmethM.symm.trans hmethM'
  obtain ⟨c2, r2, m2, q1, q2, q3, q4, kP, hkP, hkPi⟩ := Cond.selects_spec hsel
  cases hcls.symm.trans q1
  cases (State.methodFound?_of_named hnamed hy).symm.trans q2
  cases hnamed.symm.trans q3
  have hselP : selectMethod e.platform s.vm cellB.cls mk = .method mk := by rw [Launch.admits_selectMethod X.admits]; exact q4
  obtain ⟨vm₁, X₁, hstep₁⟩ := X.invokevirtual hexec hown hlink hnamed hmethM hstM hkP hkPi hy (a := b) (cell := cellB) hcell
    (fun z h => by rw [h] at hobj; cases hobj) hselP hmethM habM hkP hkPi (g := g) hg (argsL := argsL) (rest := rest) (hlen _ hsigM) hstack hdg
  obtain ⟨v, B, X', hpost, hsteps⟩ := hK m meth c ⟨T.setVm vm₁, locs, cells, slots⟩ { g with stack := rest } (.invokevirtual index) mk (Value.ref b :: argsL).toArray X₁ hg hsize hdg hW (X₁.named hnamed) (hpre vm₁ X₁.warmed)
  exact ⟨v, vm₁, B, X₁.warmed, X', hpost, fun target h => hstep₁ _ fun acts => by rw [doInvoke_state]; exact hsteps.trans h⟩
abbrev vx_CVW (R : Room) (s : State) (args : Array Value) (own C : String) (index : Nat) (y : MethodName) (bytes : ByteArray) (maxL : Nat) (ret : Option FieldType) (hh : List (Nat × Nat × Nat × Nat)) (ws : List Cond) (rm : Room) (mc ms n : Nat) : Prop :=
  (rm.cells = mc ∧ rm.slots = ms ∧ rm.frames + 1 ≤ R.frames ∧ 8 + (maxL + 11) + rm.locals ≤ R.locals ∧ (∀ w ∈ ws, ∀ (a' : Array Value) (U : State), s.WarmedH U.vm → w.before a' U = true) ∧ Cond.codeWith y bytes maxL ret hh ∈ ws) ∧
  (Cond.codeWith y bytes maxL ret hh).before args s = true ∧ (Cond.initialized y.cls).before args s = true ∧ (y.cls ≠ "java/lang/invoke/MethodHandle" ∧ y.cls ≠ "java/lang/invoke/VarHandle") ∧
  (∀ sig, parseMethodDescriptor y.desc = some sig → n = sig.parameters.length) ∧ (Cond.methodLink own index y).before args s = true ∧ (Cond.instanceMethod y).before args s = true ∧ (Cond.selects C y y).before args s = true
theorem vx_cwVW {own C : String} {index maxL mc ms : Nat} {y : MethodName} {bytes : ByteArray} {ret : Option FieldType} {hh : List (Nat × Nat × Nat × Nat)} {Ts ws ws' : List Cond} {rm : Room} (n : Nat) (ht : ∀ w ∈ Ts, w.before args s = true) (hT : GoodIn Ts (wsV own index C y ws)) (hw : ws = Cond.codeWith y bytes maxL ret hh :: ws') (hrc : rm.cells = mc) (hrs : rm.slots = ms)
    (hd : y.cls = C ∧ y.cls ≠ "java/lang/invoke/MethodHandle" ∧ y.cls ≠ "java/lang/invoke/VarHandle" ∧ (parseMethodDescriptor y.desc).map (fun d => d.parameters.length) = some n) (hR : rm.frames + 1 ≤ R.frames ∧ 8 + (maxL + 11) + rm.locals ≤ R.locals) :
    vx_CVW R s args own C index y bytes maxL ret hh ws rm mc ms n := by
  obtain ⟨hC, hd⟩ := hd
  subst hC
  have ok : ∀ w ∈ wsV own index y.cls y ws, w.before args s = true := fun w h => ht w (hT w h).1
  have hG : GoodIn Ts ws := fun w h => hT w (by unfold wsV; exact List.mem_append_right _ h)
  have hc : Cond.codeWith y bytes maxL ret hh ∈ ws := by rw [hw]; exact List.mem_cons_self
  refine ⟨⟨hrc, hrs, hR.1, hR.2, pay_in ht hG, hc⟩, ht _ (hG _ hc).1, ok _ (by simp [wsV]), ⟨hd.1, hd.2.1⟩, fun sig h => ?_, ok _ (by simp [wsV]), ok _ (by simp [wsV]), ok _ (by simp [wsV])⟩
  have h2 := hd.2.2
  rw [h] at h2
  exact (Option.some.inj h2).symm
theorem vx_runVW {y : MethodName} {bytes cc : ByteArray} {maxL nL mc ms n index : Nat} {ret : Option FieldType} {hh : List (Nat × Nat × Nat × Nat)} {ws : List Cond} {rm : Room} {Pc : Array Value → State → Prop} {Qc : Array Value → State → Outcome → State → Prop} {free : Addr → Prop} {Ts : List Cond} {own C : String} {b : Addr} {As rest : List Value} {g : JFrame}
    (S : CallFix p m c cc nL s args Ts own) (hM : Met l y ws rm Pc Qc mc ms free) (cw : vx_CVW R s args own C index y bytes maxL ret hh ws rm mc ms n) (hp : PreV s H C b Pc As)
    (hg : g.method = m) (hn : As.length = n) (hsize : g.locals.size = nL) (hstack : g.stack = As.reverse ++ .ref b :: rest) (hW : 2 * g.monitorRoom + (rest.map fun v => v.category).sum ≤ 8) (hdg : decode cc g.pc = .ok (.invokevirtual index, 3)) (hf : cells + mc ≤ R.cells ∧ slots + ms ≤ R.slots) :
    va_Run p l e R s m args below meth c H locs cells slots mc ms g rest (Qc (Value.ref b :: As).toArray) free := by
  obtain ⟨⟨hrc, hrs, hfr, hlo, hws, hcw⟩, hcode, hini, hy, hlen, hl, hin, hse⟩ := cw
  have hK : Back l R p e below s args y 3 8 (PreOf R mc ms Pc) (PostOf Qc mc ms free) := va_backW (hh := hh) (bytes := bytes) (maxL := maxL) (ret := ret) hM hp.1 hrc hrs hfr hlo hws hcw (fun a' U hW => word_at hW (Or.inl (by first | rfl | simp [Cond.onTables, Cond.keeps, Cond.steady])) hini)
  obtain ⟨hx, hb, hml, ho, -⟩ := S
  obtain ⟨-, ⟨cellB, hcB, hoB, hclB⟩, hPc⟩ := hp
  intro T hT X
  obtain ⟨v, vm₁, ⟨U', l2, c2, s2⟩, hW₁, X', ⟨g', mk, t, L, e1, e2, hq, h1, hL, h2, h3⟩, st⟩ := vx_callVW X hx (C := C) (hh := hh) (bytes := bytes) (maxL := maxL) (ret := ret) ho hl hin hse hcode hy hK (by rw [hT]; exact hcB) hoB hclB hg (hsize.trans hml.symm) (argsL := As) (rest := rest) (fun sig h => hn.trans (hlen sig h)) hstack hW (by rw [hb]; exact hdg)
    (fun vm₁ hW₁ => ⟨hf.1, hf.2, hPc (T.setVm vm₁) hT hW₁⟩)
  dsimp only [Pt.U, Pt.locs, Pt.cells, Pt.slots] at X' e1 e2 h1 h2 h3 st
  subst h1; subst h2; subst h3
  exact ⟨v, (T.setVm vm₁).calling g' mk (Value.ref b :: As).toArray, t, U', L, hT, X', hL, e1, e2, hq, st⟩
section
variable {y : MethodName} {bytes cc : ByteArray} {maxL nL mc ms n index : Nat} {ret : Option FieldType} {ws : List Cond} {rm : Room} {Pc : Array Value → State → Prop} {Qc : Array Value → State → Outcome → State → Prop} {XC : String → State → State → Prop} {free : Addr → Prop} {Ts : List Cond} {own C : String} {b : Addr} {As rest : List Value} {g : JFrame}
theorem vx_runVX {hh : List (Nat × Nat × Nat × Nat)} (S : CallFix p m c cc nL s args Ts own) (hM : vx_Met l y ws rm Pc Qc XC mc ms free) (cw : vx_CVW R s args own C index y bytes maxL ret hh ws rm mc ms n) (hp : PreV s H C b Pc As)
    (hg : g.method = m) (hn : As.length = n) (hsize : g.locals.size = nL) (hstack : g.stack = As.reverse ++ .ref b :: rest) (hW : 2 * g.monitorRoom + (rest.map fun v => v.category).sum ≤ 8) (hdg : decode cc g.pc = .ok (.invokevirtual index, 3)) (hf : cells + mc ≤ R.cells ∧ slots + ms ≤ R.slots) :
    vx_Run p l e R s m args below meth c H locs cells slots mc ms g rest (Qc (Value.ref b :: As).toArray) XC free := by
  obtain ⟨⟨hrc, hrs, hfr, hlo, hws, hcw⟩, hcode, hini, hy, hlen, hl, hin, hse⟩ := cw
  have hK : vx_Back l R p e below s args y 3 8 (PreOf R mc ms Pc) (PostOf Qc mc ms free) (vx_Post XC mc ms free) := vx_backW (hh := hh) (bytes := bytes) (maxL := maxL) (ret := ret) hM hp.1 hrc hrs hfr hlo hws hcw (fun a' U hW => word_at hW (Or.inl (by first | rfl | simp [Cond.onTables, Cond.keeps, Cond.steady])) hini)
  obtain ⟨hx, hb, hml, ho, -⟩ := S
  obtain ⟨-, ⟨cellB, hcB, hoB, hclB⟩, hPc⟩ := hp
  intro T hT X
  rcases vx_callVX X hx (C := C) (hh := hh) (bytes := bytes) (maxL := maxL) (ret := ret) ho hl hin hse hcode hy hK (by rw [hT]; exact hcB) hoB hclB hg (hsize.trans hml.symm) (argsL := As) (rest := rest) (fun sig h => hn.trans (hlen sig h)) hstack hW (by rw [hb]; exact hdg)
    (fun vm₁ hW₁ => ⟨hf.1, hf.2, hPc (T.setVm vm₁) hT hW₁⟩) with ⟨v, vm₁, ⟨U', l2, c2, s2⟩, hW₁, X', ⟨g', mk, t, L, e1, e2, hq, h1, hL, h2, h3⟩, st⟩ | ⟨q, vm₁, ⟨U', l2, c2, s2⟩, hW₁, X', ⟨g', mk, t, L, E, ce, e1, e2, hq, hce, hcv, hcl, h1, hL, h2, h3⟩, st⟩
  · dsimp only [Pt.U, Pt.locs, Pt.cells, Pt.slots] at X' e1 e2 h1 h2 h3 st
    subst h1; subst h2; subst h3
    exact Or.inl ⟨v, (T.setVm vm₁).calling g' mk (Value.ref b :: As).toArray, t, U', L, hT, X', hL, e1, e2, hq, st⟩
  · dsimp only [Pt.U, Pt.locs, Pt.cells, Pt.slots] at X' e1 e2 h1 h2 h3 st hcl
    subst h1; subst h2; subst h3
    exact Or.inr ⟨q, (T.setVm vm₁).calling g' mk (Value.ref b :: As).toArray, t, U', L, E, ce, hT, X', hL, e1, e2, hq, hce, hcv, vx_cls hW₁ hcl, st⟩
theorem vx_runSX {hh : List (Nat × Nat × Nat × Nat)} (S : CallFix p m c cc nL s args Ts own) (hM : vx_Met l y ws rm Pc Qc XC mc ms free) (cw : vx_CSW R s args own index y bytes maxL ret hh ws rm mc ms n) (hp : PreS s H Pc As)
    (hg : g.method = m) (hn : As.length = n) (hsize : g.locals.size = nL) (hstack : g.stack = As.reverse ++ rest) (hW : 2 * g.monitorRoom + (rest.map fun v => v.category).sum ≤ 8) (hdg : decode cc g.pc = .ok (.invokestatic index, 3)) (hf : cells + mc ≤ R.cells ∧ slots + ms ≤ R.slots) :
    vx_Run p l e R s m args below meth c H locs cells slots mc ms g rest (Qc As.toArray) XC free := by
  obtain ⟨⟨hrc, hrs, hfr, hlo, hws, hcw⟩, hcode, hini, hy, hlen, hl, hstt⟩ := cw
  have hK : vx_Back l R p e below s args y 3 8 (PreOf R mc ms Pc) (PostOf Qc mc ms free) (vx_Post XC mc ms free) := vx_backW (hh := hh) (bytes := bytes) (maxL := maxL) (ret := ret) hM hp.1 hrc hrs hfr hlo hws hcw (fun a' U hW => word_at hW (Or.inl (by first | rfl | simp [Cond.onTables, Cond.keeps, Cond.steady])) hini)
  obtain ⟨hx, hb, hml, ho, -⟩ := S
  intro T hT X
  rcases vx_callSX X hx (hh := hh) (bytes := bytes) (maxL := maxL) (ret := ret) ho hl hstt hini hcode hy hK hg (hsize.trans hml.symm) (argsL := As) (rest := rest) (fun sig h => hn.trans (hlen sig h)) hstack hW (by rw [hb]; exact hdg)
    (fun vm₁ hW₁ => ⟨hf.1, hf.2, hp.2 (T.setVm vm₁) hT hW₁⟩) with ⟨v, vm₁, ⟨U', l2, c2, s2⟩, hW₁, X', ⟨g', mk, t, L, e1, e2, hq, h1, hL, h2, h3⟩, st⟩ | ⟨q, vm₁, ⟨U', l2, c2, s2⟩, hW₁, X', ⟨g', mk, t, L, E, ce, e1, e2, hq, hce, hcv, hcl, h1, hL, h2, h3⟩, st⟩
  · dsimp only [Pt.U, Pt.locs, Pt.cells, Pt.slots] at X' e1 e2 h1 h2 h3 st
    subst h1; subst h2; subst h3
    exact Or.inl ⟨v, (T.setVm vm₁).calling g' mk As.toArray, t, U', L, hT, X', hL, e1, e2, hq, st⟩
  · dsimp only [Pt.U, Pt.locs, Pt.cells, Pt.slots] at X' e1 e2 h1 h2 h3 st hcl
    subst h1; subst h2; subst h3
    exact Or.inr ⟨q, (T.setVm vm₁).calling g' mk As.toArray, t, U', L, E, ce, hT, X', hL, e1, e2, hq, hce, hcv, vx_cls hW₁ hcl, st⟩
end
end VXH
theorem vx_ofWH {l : Launch} {y : MethodName} {ws ws' : List Cond} {rm : Room} {Pc : Array Value → State → Prop} {Qc : Array Value → State → Outcome → State → Prop} {XC : String → State → State → Prop} {mc ms : Nat} {free : Addr → Prop} {cc : ByteArray} {maxL : Nat} {ret : Option FieldType} {hh : List (Nat × Nat × Nat × Nat)}
    (hy : plainName y.cls = true) (hw : ws = Cond.codeWith y cc maxL ret hh :: ws')
    (body : ∀ p e s m args below meth c s₁, BodyLoose p l y (headSpec ws rm) cc maxL ret e s m args below meth c s₁ → c.maxLocals = maxL → Pc args s →
      W p l e (headSpec ws rm).room s m args below meth c s.heap [] 0 0 (vx_MQ below Qc XC args s mc ms free) (entryFrame m args maxL)) : vx_Met l y ws rm Pc Qc XC mc ms free := by
  refine MetFree.of_bodyS (code := cc) (maxLocals := maxL) (ret := ret) hy ?_ ?_
  · intro args s m h hn
    obtain ⟨m9, meth, c, hn9, h1, h2, h3, h4, -, h5, h6, -⟩ := Cond.codeWith_spec (atoms_spec (ws := ws) h _ (by rw [hw]; exact List.mem_cons_self))
    cases hn.symm.trans hn9
    exact ⟨meth, c, h1, h2, h3, h4, h5, h6⟩
  · intro p e s m args below meth c s₁ B hml hP _
    have hh0 : s₁.heap = s.heap := by rw [B.state]; rfl
    obtain ⟨t, a1, o, b1, b2, b3⟩ := body p e s m args below meth c s₁ B hml hP s₁ hh0 (Stand.of_body B)
    exact ⟨t, o, a1, b1, b2, b3⟩
/-! ===== END ===== -/
end
section
-- ===== PART A: goes FIRST, ahead of the names: the tables' words, and 'selects' of the private methods out of them =====
/-- a private method of a class that the tables say can be made, by its rows of tables_1 -/
def lw_okq (q : MethodName × Nat) : Prop := (q.1.cls ≠ "java/lang/invoke/MethodHandle" ∧ q.1.cls ≠ "java/lang/invoke/VarHandle") ∧ Cond.instantiable q.1.cls q.2 ∈ tables_1 ∧ Cond.privateMethod q.1 ∈ tables_1 ∧ Cond.instanceMethod q.1 ∈ tables_1
theorem lw_p0 : lw_okq (⟨"Stowfinish", "isReady", "()Z"⟩, 15) := ⟨⟨by decide +kernel, by decide +kernel⟩, List.mem_of_getElem? (i := 20) (by decide +kernel), List.mem_of_getElem? (i := 207) (by decide +kernel), List.mem_of_getElem? (i := 208) (by decide +kernel)⟩
theorem lw_p1 : lw_okq (⟨"java/lang/Throwable", "fillInStackTrace", "(I)Ljava/lang/Throwable;"⟩, 6) := ⟨⟨by decide +kernel, by decide +kernel⟩, List.mem_of_getElem? (i := 298) (by decide +kernel), List.mem_of_getElem? (i := 296) (by decide +kernel), List.mem_of_getElem? (i := 297) (by decide +kernel)⟩
theorem lw_p2 : lw_okq (⟨"Stowfinish", "hasSpaceForBlock", "()Z"⟩, 15) := ⟨⟨by decide +kernel, by decide +kernel⟩, List.mem_of_getElem? (i := 20) (by decide +kernel), List.mem_of_getElem? (i := 375) (by decide +kernel), List.mem_of_getElem? (i := 376) (by decide +kernel)⟩
theorem lw_p3 : lw_okq (⟨"Stowfinish", "keep", "(LStowfinish$Block;)I"⟩, 15) := ⟨⟨by decide +kernel, by decide +kernel⟩, List.mem_of_getElem? (i := 20) (by decide +kernel), List.mem_of_getElem? (i := 448) (by decide +kernel), List.mem_of_getElem? (i := 449) (by decide +kernel)⟩
theorem lw_p4 : lw_okq (⟨"Stowfinish", "blockOf", "(I)LStowfinish$Block;"⟩, 15) := ⟨⟨by decide +kernel, by decide +kernel⟩, List.mem_of_getElem? (i := 20) (by decide +kernel), List.mem_of_getElem? (i := 459) (by decide +kernel), List.mem_of_getElem? (i := 460) (by decide +kernel)⟩
theorem lw_p5 : lw_okq (⟨"Stowfinish", "canJoin", "(LStowfinish$Block;LStowfinish$Block;)Z"⟩, 15) := ⟨⟨by decide +kernel, by decide +kernel⟩, List.mem_of_getElem? (i := 20) (by decide +kernel), List.mem_of_getElem? (i := 468) (by decide +kernel), List.mem_of_getElem? (i := 469) (by decide +kernel)⟩
theorem lw_p6 : lw_okq (⟨"Stowfinish", "hasSpaceForWelds", "(I)Z"⟩, 15) := ⟨⟨by decide +kernel, by decide +kernel⟩, List.mem_of_getElem? (i := 20) (by decide +kernel), List.mem_of_getElem? (i := 476) (by decide +kernel), List.mem_of_getElem? (i := 477) (by decide +kernel)⟩
theorem lw_p7 : lw_okq (⟨"Stowfinish", "makeWeld", "(LStowfinish$Block;II)V"⟩, 15) := ⟨⟨by decide +kernel, by decide +kernel⟩, List.mem_of_getElem? (i := 20) (by decide +kernel), List.mem_of_getElem? (i := 484) (by decide +kernel), List.mem_of_getElem? (i := 485) (by decide +kernel)⟩
theorem lw_p8 : lw_okq (⟨"Stowfinish", "weldNow", "(LStowfinish$Weld;I)V"⟩, 15) := ⟨⟨by decide +kernel, by decide +kernel⟩, List.mem_of_getElem? (i := 20) (by decide +kernel), List.mem_of_getElem? (i := 514) (by decide +kernel), List.mem_of_getElem? (i := 515) (by decide +kernel)⟩
theorem lw_p9 : lw_okq (⟨"Stowfinish", "spoilAt", "(II)V"⟩, 15) := ⟨⟨by decide +kernel, by decide +kernel⟩, List.mem_of_getElem? (i := 20) (by decide +kernel), List.mem_of_getElem? (i := 523) (by decide +kernel), List.mem_of_getElem? (i := 524) (by decide +kernel)⟩
theorem lw_p10 : lw_okq (⟨"Stowfinish", "neighbourAhead", "(LStowfinish$Block;)LStowfinish$Block;"⟩, 15) := ⟨⟨by decide +kernel, by decide +kernel⟩, List.mem_of_getElem? (i := 20) (by decide +kernel), List.mem_of_getElem? (i := 553) (by decide +kernel), List.mem_of_getElem? (i := 554) (by decide +kernel)⟩
theorem lw_p11 : lw_okq (⟨"Stowfinish", "neighbourBehind", "(LStowfinish$Block;)LStowfinish$Block;"⟩, 15) := ⟨⟨by decide +kernel, by decide +kernel⟩, List.mem_of_getElem? (i := 20) (by decide +kernel), List.mem_of_getElem? (i := 562) (by decide +kernel), List.mem_of_getElem? (i := 563) (by decide +kernel)⟩
theorem lw_p12 : lw_okq (⟨"Stowfinish", "reasonAgainst", "(LStowfinish$Block;)I"⟩, 15) := ⟨⟨by decide +kernel, by decide +kernel⟩, List.mem_of_getElem? (i := 20) (by decide +kernel), List.mem_of_getElem? (i := 566) (by decide +kernel), List.mem_of_getElem? (i := 567) (by decide +kernel)⟩
theorem lw_p13 : lw_okq (⟨"Stowfinish", "isSomeFilled", "(LStowfinish$Block;)Z"⟩, 15) := ⟨⟨by decide +kernel, by decide +kernel⟩, List.mem_of_getElem? (i := 20) (by decide +kernel), List.mem_of_getElem? (i := 570) (by decide +kernel), List.mem_of_getElem? (i := 571) (by decide +kernel)⟩
theorem lw_p14 : lw_okq (⟨"Stowfinish", "isSomeBelowEmpty", "(LStowfinish$Block;)Z"⟩, 15) := ⟨⟨by decide +kernel, by decide +kernel⟩, List.mem_of_getElem? (i := 20) (by decide +kernel), List.mem_of_getElem? (i := 574) (by decide +kernel), List.mem_of_getElem? (i := 575) (by decide +kernel)⟩
theorem lw_p15 : lw_okq (⟨"Stowfinish", "liftOver", "(LStowfinish$Block;)I"⟩, 15) := ⟨⟨by decide +kernel, by decide +kernel⟩, List.mem_of_getElem? (i := 20) (by decide +kernel), List.mem_of_getElem? (i := 578) (by decide +kernel), List.mem_of_getElem? (i := 579) (by decide +kernel)⟩
def lw_privs_1 : List (MethodName × Nat) := [(⟨"Stowfinish", "isReady", "()Z"⟩, 15), (⟨"java/lang/Throwable", "fillInStackTrace", "(I)Ljava/lang/Throwable;"⟩, 6), (⟨"Stowfinish", "hasSpaceForBlock", "()Z"⟩, 15), (⟨"Stowfinish", "keep", "(LStowfinish$Block;)I"⟩, 15), (⟨"Stowfinish", "blockOf", "(I)LStowfinish$Block;"⟩, 15), (⟨"Stowfinish", "canJoin", "(LStowfinish$Block;LStowfinish$Block;)Z"⟩, 15), (⟨"Stowfinish", "hasSpaceForWelds", "(I)Z"⟩, 15), (⟨"Stowfinish", "makeWeld", "(LStowfinish$Block;II)V"⟩, 15), (⟨"Stowfinish", "weldNow", "(LStowfinish$Weld;I)V"⟩, 15), (⟨"Stowfinish", "spoilAt", "(II)V"⟩, 15), (⟨"Stowfinish", "neighbourAhead", "(LStowfinish$Block;)LStowfinish$Block;"⟩, 15), (⟨"Stowfinish", "neighbourBehind", "(LStowfinish$Block;)LStowfinish$Block;"⟩, 15), (⟨"Stowfinish", "reasonAgainst", "(LStowfinish$Block;)I"⟩, 15), (⟨"Stowfinish", "isSomeFilled", "(LStowfinish$Block;)Z"⟩, 15), (⟨"Stowfinish", "isSomeBelowEmpty", "(LStowfinish$Block;)Z"⟩, 15), (⟨"Stowfinish", "liftOver", "(LStowfinish$Block;)I"⟩, 15)]
theorem lw_r1 : ∀ q ∈ lw_privs_1, lw_okq q := List.forall_mem_cons.mpr ⟨lw_p0, List.forall_mem_cons.mpr ⟨lw_p1, List.forall_mem_cons.mpr ⟨lw_p2, List.forall_mem_cons.mpr ⟨lw_p3, List.forall_mem_cons.mpr ⟨lw_p4, List.forall_mem_cons.mpr ⟨lw_p5, List.forall_mem_cons.mpr ⟨lw_p6, List.forall_mem_cons.mpr ⟨lw_p7, List.forall_mem_cons.mpr ⟨lw_p8, List.forall_mem_cons.mpr ⟨lw_p9, List.forall_mem_cons.mpr ⟨lw_p10, List.forall_mem_cons.mpr ⟨lw_p11, List.forall_mem_cons.mpr ⟨lw_p12, List.forall_mem_cons.mpr ⟨lw_p13, List.forall_mem_cons.mpr ⟨lw_p14, List.forall_mem_cons.mpr ⟨lw_p15, fun _ h => absurd h List.not_mem_nil⟩⟩⟩⟩⟩⟩⟩⟩⟩⟩⟩⟩⟩⟩⟩⟩
theorem lw_p16 : lw_okq (⟨"Stowfinish", "isMisfit", "(LStowfinish$Block;)Z"⟩, 15) := ⟨⟨by decide +kernel, by decide +kernel⟩, List.mem_of_getElem? (i := 20) (by decide +kernel), List.mem_of_getElem? (i := 586) (by decide +kernel), List.mem_of_getElem? (i := 587) (by decide +kernel)⟩
theorem lw_p17 : lw_okq (⟨"Stowfinish", "weldOf", "(I)LStowfinish$Weld;"⟩, 15) := ⟨⟨by decide +kernel, by decide +kernel⟩, List.mem_of_getElem? (i := 20) (by decide +kernel), List.mem_of_getElem? (i := 665) (by decide +kernel), List.mem_of_getElem? (i := 666) (by decide +kernel)⟩
theorem lw_p18 : lw_okq (⟨"Stowfinish", "roomNextTo", "(LStowfinish$Room;Z)LStowfinish$Room;"⟩, 15) := ⟨⟨by decide +kernel, by decide +kernel⟩, List.mem_of_getElem? (i := 20) (by decide +kernel), List.mem_of_getElem? (i := 692) (by decide +kernel), List.mem_of_getElem? (i := 693) (by decide +kernel)⟩
theorem lw_p19 : lw_okq (⟨"Stowfinish$Ways", "measure", "(LStowfinish$Room;)V"⟩, 1) := ⟨⟨by decide +kernel, by decide +kernel⟩, List.mem_of_getElem? (i := 54) (by decide +kernel), List.mem_of_getElem? (i := 733) (by decide +kernel), List.mem_of_getElem? (i := 734) (by decide +kernel)⟩
theorem lw_p20 : lw_okq (⟨"Stowfinish$Ways", "spreadAll", "(I)Z"⟩, 1) := ⟨⟨by decide +kernel, by decide +kernel⟩, List.mem_of_getElem? (i := 54) (by decide +kernel), List.mem_of_getElem? (i := 741) (by decide +kernel), List.mem_of_getElem? (i := 742) (by decide +kernel)⟩
theorem lw_p21 : lw_okq (⟨"Stowfinish$Ways", "spread", "(LStowfinish$Room;)Z"⟩, 1) := ⟨⟨by decide +kernel, by decide +kernel⟩, List.mem_of_getElem? (i := 54) (by decide +kernel), List.mem_of_getElem? (i := 745) (by decide +kernel), List.mem_of_getElem? (i := 746) (by decide +kernel)⟩
theorem lw_p22 : lw_okq (⟨"Stowfinish$Ways", "through", "(LStowfinish$Room;I)LStowfinish$Room;"⟩, 1) := ⟨⟨by decide +kernel, by decide +kernel⟩, List.mem_of_getElem? (i := 54) (by decide +kernel), List.mem_of_getElem? (i := 751) (by decide +kernel), List.mem_of_getElem? (i := 752) (by decide +kernel)⟩
theorem lw_p23 : lw_okq (⟨"Stowfinish$Ways", "lowestNearer", "(LStowfinish$Room;)LStowfinish$Room;"⟩, 1) := ⟨⟨by decide +kernel, by decide +kernel⟩, List.mem_of_getElem? (i := 54) (by decide +kernel), List.mem_of_getElem? (i := 758) (by decide +kernel), List.mem_of_getElem? (i := 759) (by decide +kernel)⟩
theorem lw_p24 : lw_okq (⟨"Stowfinish", "runThrough", "([I)V"⟩, 15) := ⟨⟨by decide +kernel, by decide +kernel⟩, List.mem_of_getElem? (i := 20) (by decide +kernel), List.mem_of_getElem? (i := 773) (by decide +kernel), List.mem_of_getElem? (i := 774) (by decide +kernel)⟩
theorem lw_p25 : lw_okq (⟨"StowfinishModel", "fails", "(I)Z"⟩, 35) := ⟨⟨by decide +kernel, by decide +kernel⟩, List.mem_of_getElem? (i := 843) (by decide +kernel), List.mem_of_getElem? (i := 967) (by decide +kernel), List.mem_of_getElem? (i := 968) (by decide +kernel)⟩
theorem lw_p26 : lw_okq (⟨"StowfinishModel", "adds", "(IIIIII)I"⟩, 35) := ⟨⟨by decide +kernel, by decide +kernel⟩, List.mem_of_getElem? (i := 843) (by decide +kernel), List.mem_of_getElem? (i := 996) (by decide +kernel), List.mem_of_getElem? (i := 997) (by decide +kernel)⟩
theorem lw_p27 : lw_okq (⟨"StowfinishModel", "isBlock", "(I)Z"⟩, 35) := ⟨⟨by decide +kernel, by decide +kernel⟩, List.mem_of_getElem? (i := 843) (by decide +kernel), List.mem_of_getElem? (i := 1004) (by decide +kernel), List.mem_of_getElem? (i := 1005) (by decide +kernel)⟩
theorem lw_p28 : lw_okq (⟨"StowfinishModel", "canJoin", "(II)Z"⟩, 35) := ⟨⟨by decide +kernel, by decide +kernel⟩, List.mem_of_getElem? (i := 843) (by decide +kernel), List.mem_of_getElem? (i := 1008) (by decide +kernel), List.mem_of_getElem? (i := 1009) (by decide +kernel)⟩
theorem lw_p29 : lw_okq (⟨"StowfinishModel", "makes", "(IIII)V"⟩, 35) := ⟨⟨by decide +kernel, by decide +kernel⟩, List.mem_of_getElem? (i := 843) (by decide +kernel), List.mem_of_getElem? (i := 1012) (by decide +kernel), List.mem_of_getElem? (i := 1013) (by decide +kernel)⟩
theorem lw_p30 : lw_okq (⟨"StowfinishModel", "draws", "(II)V"⟩, 35) := ⟨⟨by decide +kernel, by decide +kernel⟩, List.mem_of_getElem? (i := 843) (by decide +kernel), List.mem_of_getElem? (i := 1016) (by decide +kernel), List.mem_of_getElem? (i := 1017) (by decide +kernel)⟩
theorem lw_p31 : lw_okq (⟨"StowfinishModel", "blockAt", "(II)I"⟩, 35) := ⟨⟨by decide +kernel, by decide +kernel⟩, List.mem_of_getElem? (i := 843) (by decide +kernel), List.mem_of_getElem? (i := 1025) (by decide +kernel), List.mem_of_getElem? (i := 1026) (by decide +kernel)⟩
def lw_privs_2 : List (MethodName × Nat) := [(⟨"Stowfinish", "isMisfit", "(LStowfinish$Block;)Z"⟩, 15), (⟨"Stowfinish", "weldOf", "(I)LStowfinish$Weld;"⟩, 15), (⟨"Stowfinish", "roomNextTo", "(LStowfinish$Room;Z)LStowfinish$Room;"⟩, 15), (⟨"Stowfinish$Ways", "measure", "(LStowfinish$Room;)V"⟩, 1), (⟨"Stowfinish$Ways", "spreadAll", "(I)Z"⟩, 1), (⟨"Stowfinish$Ways", "spread", "(LStowfinish$Room;)Z"⟩, 1), (⟨"Stowfinish$Ways", "through", "(LStowfinish$Room;I)LStowfinish$Room;"⟩, 1), (⟨"Stowfinish$Ways", "lowestNearer", "(LStowfinish$Room;)LStowfinish$Room;"⟩, 1), (⟨"Stowfinish", "runThrough", "([I)V"⟩, 15), (⟨"StowfinishModel", "fails", "(I)Z"⟩, 35), (⟨"StowfinishModel", "adds", "(IIIIII)I"⟩, 35), (⟨"StowfinishModel", "isBlock", "(I)Z"⟩, 35), (⟨"StowfinishModel", "canJoin", "(II)Z"⟩, 35), (⟨"StowfinishModel", "makes", "(IIII)V"⟩, 35), (⟨"StowfinishModel", "draws", "(II)V"⟩, 35), (⟨"StowfinishModel", "blockAt", "(II)I"⟩, 35)]
theorem lw_r2 : ∀ q ∈ lw_privs_2, lw_okq q := List.forall_mem_cons.mpr ⟨lw_p16, List.forall_mem_cons.mpr ⟨lw_p17, List.forall_mem_cons.mpr ⟨lw_p18, List.forall_mem_cons.mpr ⟨lw_p19, List.forall_mem_cons.mpr ⟨lw_p20, List.forall_mem_cons.mpr ⟨lw_p21, List.forall_mem_cons.mpr ⟨lw_p22, List.forall_mem_cons.mpr ⟨lw_p23, List.forall_mem_cons.mpr ⟨lw_p24, List.forall_mem_cons.mpr ⟨lw_p25, List.forall_mem_cons.mpr ⟨lw_p26, List.forall_mem_cons.mpr ⟨lw_p27, List.forall_mem_cons.mpr ⟨lw_p28, List.forall_mem_cons.mpr ⟨lw_p29, List.forall_mem_cons.mpr ⟨lw_p30, List.forall_mem_cons.mpr ⟨lw_p31, fun _ h => absurd h List.not_mem_nil⟩⟩⟩⟩⟩⟩⟩⟩⟩⟩⟩⟩⟩⟩⟩⟩
theorem lw_p32 : lw_okq (⟨"StowfinishModel", "reason", "(I)I"⟩, 35) := ⟨⟨by decide +kernel, by decide +kernel⟩, List.mem_of_getElem? (i := 843) (by decide +kernel), List.mem_of_getElem? (i := 1029) (by decide +kernel), List.mem_of_getElem? (i := 1030) (by decide +kernel)⟩
theorem lw_p33 : lw_okq (⟨"StowfinishModel", "space", "(II)I"⟩, 35) := ⟨⟨by decide +kernel, by decide +kernel⟩, List.mem_of_getElem? (i := 843) (by decide +kernel), List.mem_of_getElem? (i := 1033) (by decide +kernel), List.mem_of_getElem? (i := 1034) (by decide +kernel)⟩
theorem lw_p34 : lw_okq (⟨"StowfinishModel", "endOf", "(I)I"⟩, 35) := ⟨⟨by decide +kernel, by decide +kernel⟩, List.mem_of_getElem? (i := 843) (by decide +kernel), List.mem_of_getElem? (i := 1037) (by decide +kernel), List.mem_of_getElem? (i := 1038) (by decide +kernel)⟩
theorem lw_p35 : lw_okq (⟨"StowfinishModel", "spoils", "(II)V"⟩, 35) := ⟨⟨by decide +kernel, by decide +kernel⟩, List.mem_of_getElem? (i := 843) (by decide +kernel), List.mem_of_getElem? (i := 1041) (by decide +kernel), List.mem_of_getElem? (i := 1042) (by decide +kernel)⟩
theorem lw_p36 : lw_okq (⟨"StowfinishModel", "whole", "(I)I"⟩, 35) := ⟨⟨by decide +kernel, by decide +kernel⟩, List.mem_of_getElem? (i := 843) (by decide +kernel), List.mem_of_getElem? (i := 1049) (by decide +kernel), List.mem_of_getElem? (i := 1050) (by decide +kernel)⟩
theorem lw_p37 : lw_okq (⟨"StowfinishModel", "isWeld", "(I)Z"⟩, 35) := ⟨⟨by decide +kernel, by decide +kernel⟩, List.mem_of_getElem? (i := 843) (by decide +kernel), List.mem_of_getElem? (i := 1057) (by decide +kernel), List.mem_of_getElem? (i := 1058) (by decide +kernel)⟩
theorem lw_p38 : lw_okq (⟨"StowfinishModel", "isScrapped", "(I)Z"⟩, 35) := ⟨⟨by decide +kernel, by decide +kernel⟩, List.mem_of_getElem? (i := 843) (by decide +kernel), List.mem_of_getElem? (i := 1061) (by decide +kernel), List.mem_of_getElem? (i := 1062) (by decide +kernel)⟩
theorem lw_p39 : lw_okq (⟨"StowfinishModel", "stands", "(I)Z"⟩, 35) := ⟨⟨by decide +kernel, by decide +kernel⟩, List.mem_of_getElem? (i := 843) (by decide +kernel), List.mem_of_getElem? (i := 1069) (by decide +kernel), List.mem_of_getElem? (i := 1070) (by decide +kernel)⟩
theorem lw_p40 : lw_okq (⟨"StowfinishModel", "isRoom", "(I)Z"⟩, 35) := ⟨⟨by decide +kernel, by decide +kernel⟩, List.mem_of_getElem? (i := 843) (by decide +kernel), List.mem_of_getElem? (i := 1077) (by decide +kernel), List.mem_of_getElem? (i := 1078) (by decide +kernel)⟩
theorem lw_p41 : lw_okq (⟨"StowfinishModel", "ways", "(I)V"⟩, 35) := ⟨⟨by decide +kernel, by decide +kernel⟩, List.mem_of_getElem? (i := 843) (by decide +kernel), List.mem_of_getElem? (i := 1093) (by decide +kernel), List.mem_of_getElem? (i := 1094) (by decide +kernel)⟩
theorem lw_p42 : lw_okq (⟨"StowfinishModel", "beyond", "(II)I"⟩, 35) := ⟨⟨by decide +kernel, by decide +kernel⟩, List.mem_of_getElem? (i := 843) (by decide +kernel), List.mem_of_getElem? (i := 1097) (by decide +kernel), List.mem_of_getElem? (i := 1098) (by decide +kernel)⟩
theorem lw_p43 : lw_okq (⟨"StowfinishModel", "nearer", "(I)I"⟩, 35) := ⟨⟨by decide +kernel, by decide +kernel⟩, List.mem_of_getElem? (i := 843) (by decide +kernel), List.mem_of_getElem? (i := 1101) (by decide +kernel), List.mem_of_getElem? (i := 1102) (by decide +kernel)⟩
theorem lw_p44 : lw_okq (⟨"StowfinishModel", "canLaunch", "(I)Z"⟩, 35) := ⟨⟨by decide +kernel, by decide +kernel⟩, List.mem_of_getElem? (i := 843) (by decide +kernel), List.mem_of_getElem? (i := 1109) (by decide +kernel), List.mem_of_getElem? (i := 1110) (by decide +kernel)⟩
theorem lw_p45 : lw_okq (⟨"StowfinishModel", "isWhole", "()Z"⟩, 35) := ⟨⟨by decide +kernel, by decide +kernel⟩, List.mem_of_getElem? (i := 843) (by decide +kernel), List.mem_of_getElem? (i := 1113) (by decide +kernel), List.mem_of_getElem? (i := 1114) (by decide +kernel)⟩
theorem lw_p46 : lw_okq (⟨"StowfinishModel", "greater", "()I"⟩, 35) := ⟨⟨by decide +kernel, by decide +kernel⟩, List.mem_of_getElem? (i := 843) (by decide +kernel), List.mem_of_getElem? (i := 1117) (by decide +kernel), List.mem_of_getElem? (i := 1118) (by decide +kernel)⟩
theorem lw_p47 : lw_okq (⟨"StowfinishModel", "draughtOf", "(Z)I"⟩, 35) := ⟨⟨by decide +kernel, by decide +kernel⟩, List.mem_of_getElem? (i := 843) (by decide +kernel), List.mem_of_getElem? (i := 1121) (by decide +kernel), List.mem_of_getElem? (i := 1122) (by decide +kernel)⟩
def lw_privs_3 : List (MethodName × Nat) := [(⟨"StowfinishModel", "reason", "(I)I"⟩, 35), (⟨"StowfinishModel", "space", "(II)I"⟩, 35), (⟨"StowfinishModel", "endOf", "(I)I"⟩, 35), (⟨"StowfinishModel", "spoils", "(II)V"⟩, 35), (⟨"StowfinishModel", "whole", "(I)I"⟩, 35), (⟨"StowfinishModel", "isWeld", "(I)Z"⟩, 35), (⟨"StowfinishModel", "isScrapped", "(I)Z"⟩, 35), (⟨"StowfinishModel", "stands", "(I)Z"⟩, 35), (⟨"StowfinishModel", "isRoom", "(I)Z"⟩, 35), (⟨"StowfinishModel", "ways", "(I)V"⟩, 35), (⟨"StowfinishModel", "beyond", "(II)I"⟩, 35), (⟨"StowfinishModel", "nearer", "(I)I"⟩, 35), (⟨"StowfinishModel", "canLaunch", "(I)Z"⟩, 35), (⟨"StowfinishModel", "isWhole", "()Z"⟩, 35), (⟨"StowfinishModel", "greater", "()I"⟩, 35), (⟨"StowfinishModel", "draughtOf", "(Z)I"⟩, 35)]
theorem lw_r3 : ∀ q ∈ lw_privs_3, lw_okq q := List.forall_mem_cons.mpr ⟨lw_p32, List.forall_mem_cons.mpr ⟨lw_p33, List.forall_mem_cons.mpr ⟨lw_p34, List.forall_mem_cons.mpr ⟨lw_p35, List.forall_mem_cons.mpr ⟨lw_p36, List.forall_mem_cons.mpr ⟨lw_p37, List.forall_mem_cons.mpr ⟨lw_p38, List.forall_mem_cons.mpr ⟨lw_p39, List.forall_mem_cons.mpr ⟨lw_p40, List.forall_mem_cons.mpr ⟨lw_p41, List.forall_mem_cons.mpr ⟨lw_p42, List.forall_mem_cons.mpr ⟨lw_p43, List.forall_mem_cons.mpr ⟨lw_p44, List.forall_mem_cons.mpr ⟨lw_p45, List.forall_mem_cons.mpr ⟨lw_p46, List.forall_mem_cons.mpr ⟨lw_p47, fun _ h => absurd h List.not_mem_nil⟩⟩⟩⟩⟩⟩⟩⟩⟩⟩⟩⟩⟩⟩⟩⟩
theorem lw_p48 : lw_okq (⟨"StowfinishModel", "tonsOf", "()I"⟩, 35) := ⟨⟨by decide +kernel, by decide +kernel⟩, List.mem_of_getElem? (i := 843) (by decide +kernel), List.mem_of_getElem? (i := 1125) (by decide +kernel), List.mem_of_getElem? (i := 1126) (by decide +kernel)⟩
theorem lw_p49 : lw_okq (⟨"StowfinishModel", "centreOf", "()I"⟩, 35) := ⟨⟨by decide +kernel, by decide +kernel⟩, List.mem_of_getElem? (i := 843) (by decide +kernel), List.mem_of_getElem? (i := 1129) (by decide +kernel), List.mem_of_getElem? (i := 1130) (by decide +kernel)⟩
theorem lw_p50 : lw_okq (⟨"StowfinishModel", "tells", "(I)I"⟩, 35) := ⟨⟨by decide +kernel, by decide +kernel⟩, List.mem_of_getElem? (i := 843) (by decide +kernel), List.mem_of_getElem? (i := 1140) (by decide +kernel), List.mem_of_getElem? (i := 1141) (by decide +kernel)⟩
def lw_privs_4 : List (MethodName × Nat) := [(⟨"StowfinishModel", "tonsOf", "()I"⟩, 35), (⟨"StowfinishModel", "centreOf", "()I"⟩, 35), (⟨"StowfinishModel", "tells", "(I)I"⟩, 35)]
theorem lw_r4 : ∀ q ∈ lw_privs_4, lw_okq q := List.forall_mem_cons.mpr ⟨lw_p48, List.forall_mem_cons.mpr ⟨lw_p49, List.forall_mem_cons.mpr ⟨lw_p50, fun _ h => absurd h List.not_mem_nil⟩⟩⟩
def lw_privs : List (MethodName × Nat) := lw_privs_1 ++ (lw_privs_2 ++ (lw_privs_3 ++ (lw_privs_4)))
def lw_tbl : List Cond := k2_sels lw_privs ++ tables_1
theorem lw_privs_ok : ∀ q ∈ lw_privs, lw_okq q := by
  show ∀ q ∈ lw_privs_1 ++ (lw_privs_2 ++ (lw_privs_3 ++ (lw_privs_4))), lw_okq q
  exact List.forall_mem_append.mpr ⟨lw_r1, List.forall_mem_append.mpr ⟨lw_r2, List.forall_mem_append.mpr ⟨lw_r3, lw_r4⟩⟩⟩
end
section
def RX0 : String := "Stowfinish$Block"
def TX0 : u_T := fun k => match k with
  | 0 => ("Stowfinish$Block", "number", "I", true)
  | 1 => ("Stowfinish$Block", "first", "I", true)
  | 2 => ("Stowfinish$Block", "last", "I", true)
  | 3 => ("Stowfinish$Block", "level", "I", true)
  | 4 => ("Stowfinish$Block", "tons", "I", true)
  | 5 => ("Stowfinish$Block", "lugs", "I", true)
  | 6 => ("Stowfinish$Block", "length", "I", false)
  | 7 => ("Stowfinish$Block", "begin", "I", false)
  | 8 => ("Stowfinish$Block", "kind", "I", false)
  | _ => ("Stowfinish$Block", "whole", "LStowfinish$Block;", false)
def tyX0 : Nat → FieldType := fun k => match k with
  | 0 => .int
  | 1 => .int
  | 2 => .int
  | 3 => .int
  | 4 => .int
  | 5 => .int
  | 6 => .int
  | 7 => .int
  | 8 => .int
  | _ => .object "Stowfinish$Block"
abbrev wsX00 : List Cond := u_ws RX0 TX0 10
theorem nmX0 : ∀ a, a < 10 → ∀ b, b < 10 → a ≠ b → (TX0 a).2.1 ≠ (TX0 b).2.1 := by decide +kernel
theorem tyX0_ok : ∀ k, k < 10 → parseFieldDescriptor (TX0 k).2.2.1 = some (tyX0 k) := by decide +kernel
abbrev cX0_init : ByteArray := prog_2_method_1_code
def yX0_init : MethodName := ⟨RX0, "<init>", "(IIIIIII)V"⟩
abbrev cX0_frames : ByteArray := prog_2_method_2_code
def yX0_frames : MethodName := ⟨RX0, "frames", "()I"⟩
abbrev cX0_end : ByteArray := prog_2_method_3_code
def yX0_end : MethodName := ⟨RX0, "end", "()I"⟩
abbrev cX0_outermost : ByteArray := prog_2_method_4_code
def yX0_outermost : MethodName := ⟨RX0, "outermost", "()LStowfinish$Block;"⟩
abbrev cX0_tonsAt : ByteArray := prog_2_method_5_code
def yX0_tonsAt : MethodName := ⟨RX0, "tonsAt", "(I)I"⟩
abbrev cX0_fact : ByteArray := prog_2_method_6_code
def yX0_fact : MethodName := ⟨RX0, "fact", "(I)I"⟩
def RX1 : String := "Stowfinish$Hull"
def TX1 : u_T := fun k => match k with
  | 0 => ("Stowfinish$Hull", "rooms", "[LStowfinish$Room;", true)
  | 1 => ("Stowfinish$Hull", "tons", "I", false)
  | _ => ("Stowfinish$Hull", "moment", "I", false)
def tyX1 : Nat → FieldType := fun k => match k with
  | 0 => .array (.object "Stowfinish$Room")
  | 1 => .int
  | _ => .int
abbrev wsX10 : List Cond := u_ws RX1 TX1 3
theorem nmX1 : ∀ a, a < 3 → ∀ b, b < 3 → a ≠ b → (TX1 a).2.1 ≠ (TX1 b).2.1 := by decide +kernel
theorem tyX1_ok : ∀ k, k < 3 → parseFieldDescriptor (TX1 k).2.2.1 = some (tyX1 k) := by decide +kernel
abbrev cX1_init : ByteArray := prog_3_method_1_code
def yX1_init : MethodName := ⟨RX1, "<init>", "()V"⟩
abbrev cX1_roomOf : ByteArray := prog_3_method_2_code
def yX1_roomOf : MethodName := ⟨RX1, "roomOf", "(I)LStowfinish$Room;"⟩
abbrev cX1_roomOn : ByteArray := prog_3_method_3_code
def yX1_roomOn : MethodName := ⟨RX1, "roomOn", "(II)LStowfinish$Room;"⟩
abbrev cX1_blockAt : ByteArray := prog_3_method_4_code
def yX1_blockAt : MethodName := ⟨RX1, "blockAt", "(II)LStowfinish$Block;"⟩
abbrev cX1_load : ByteArray := prog_3_method_5_code
def yX1_load : MethodName := ⟨RX1, "load", "(II)V"⟩
abbrev cX1_fill : ByteArray := prog_3_method_6_code
def yX1_fill : MethodName := ⟨RX1, "fill", "(LStowfinish$Block;)V"⟩
abbrev cX1_isFull : ByteArray := prog_3_method_7_code
def yX1_isFull : MethodName := ⟨RX1, "isFull", "()Z"⟩
abbrev cX1_painted : ByteArray := prog_3_method_8_code
def yX1_painted : MethodName := ⟨RX1, "painted", "()I"⟩
abbrev cX1_tonsOfCells : ByteArray := prog_3_method_9_code
def yX1_tonsOfCells : MethodName := ⟨RX1, "tonsOfCells", "()I"⟩
abbrev cX1_balance : ByteArray := prog_3_method_10_code
def yX1_balance : MethodName := ⟨RX1, "balance", "()I"⟩
abbrev cX1_depth : ByteArray := prog_3_method_11_code
def yX1_depth : MethodName := ⟨RX1, "depth", "(Z)I"⟩
abbrev cX1_greaterDepth : ByteArray := prog_3_method_12_code
def yX1_greaterDepth : MethodName := ⟨RX1, "greaterDepth", "()I"⟩
def RX2 : String := "Stowfinish$Ledger"
def TX2 : u_T := fun k => match k with
  | 0 => ("Stowfinish$Ledger", "entries", "[I", true)
  | 1 => ("Stowfinish$Ledger", "count", "I", false)
  | _ => ("Stowfinish$Ledger", "sum", "I", false)
def tyX2 : Nat → FieldType := fun k => match k with
  | 0 => .array .int
  | 1 => .int
  | _ => .int
abbrev wsX20 : List Cond := u_ws RX2 TX2 3
theorem nmX2 : ∀ a, a < 3 → ∀ b, b < 3 → a ≠ b → (TX2 a).2.1 ≠ (TX2 b).2.1 := by decide +kernel
theorem tyX2_ok : ∀ k, k < 3 → parseFieldDescriptor (TX2 k).2.2.1 = some (tyX2 k) := by decide +kernel
abbrev cX2_init : ByteArray := prog_4_method_1_code
def yX2_init : MethodName := ⟨RX2, "<init>", "()V"⟩
abbrev cX2_enter : ByteArray := prog_4_method_2_code
def yX2_enter : MethodName := ⟨RX2, "enter", "(I)V"⟩
abbrev cX2_sumOfEntries : ByteArray := prog_4_method_3_code
def yX2_sumOfEntries : MethodName := ⟨RX2, "sumOfEntries", "()I"⟩
def RX3 : String := "Stowfinish$Pipe"
def TX3 : u_T := fun k => match k with
  | _ => ("Stowfinish$Pipe", "cells", "[I", true)
def tyX3 : Nat → FieldType := fun k => match k with
  | _ => .array .int
abbrev wsX30 : List Cond := u_ws RX3 TX3 1
theorem nmX3 : ∀ a, a < 1 → ∀ b, b < 1 → a ≠ b → (TX3 a).2.1 ≠ (TX3 b).2.1 := by decide +kernel
theorem tyX3_ok : ∀ k, k < 1 → parseFieldDescriptor (TX3 k).2.2.1 = some (tyX3 k) := by decide +kernel
abbrev cX3_init : ByteArray := prog_5_method_1_code
def yX3_init : MethodName := ⟨RX3, "<init>", "([I)V"⟩
def RX4 : String := "Stowfinish$Room"
def TX4 : u_T := fun k => match k with
  | 0 => ("Stowfinish$Room", "cell", "I", true)
  | 1 => ("Stowfinish$Room", "block", "LStowfinish$Block;", true)
  | 2 => ("Stowfinish$Room", "isPainted", "Z", false)
  | 3 => ("Stowfinish$Room", "things", "I", false)
  | 4 => ("Stowfinish$Room", "pipes", "I", false)
  | 5 => ("Stowfinish$Room", "holes", "I", false)
  | _ => ("Stowfinish$Room", "away", "I", false)
def tyX4 : Nat → FieldType := fun k => match k with
  | 0 => .int
  | 1 => .object "Stowfinish$Block"
  | 2 => .boolean
  | 3 => .int
  | 4 => .int
  | 5 => .int
  | _ => .int
abbrev wsX40 : List Cond := u_ws RX4 TX4 7
theorem nmX4 : ∀ a, a < 7 → ∀ b, b < 7 → a ≠ b → (TX4 a).2.1 ≠ (TX4 b).2.1 := by decide +kernel
theorem tyX4_ok : ∀ k, k < 7 → parseFieldDescriptor (TX4 k).2.2.1 = some (tyX4 k) := by decide +kernel
abbrev cX4_init : ByteArray := prog_6_method_1_code
def yX4_init : MethodName := ⟨RX4, "<init>", "(ILStowfinish$Block;)V"⟩
abbrev cX4_frame : ByteArray := prog_6_method_2_code
def yX4_frame : MethodName := ⟨RX4, "frame", "()I"⟩
abbrev cX4_hasAllPipes : ByteArray := prog_6_method_3_code
def yX4_hasAllPipes : MethodName := ⟨RX4, "hasAllPipes", "()Z"⟩
abbrev cX4_spoil : ByteArray := prog_6_method_4_code
def yX4_spoil : MethodName := ⟨RX4, "spoil", "()I"⟩
abbrev cX4_fact : ByteArray := prog_6_method_5_code
def yX4_fact : MethodName := ⟨RX4, "fact", "(I)I"⟩
def RX5 : String := "Stowfinish$Ways"
def TX5 : u_T := fun k => match k with
  | _ => ("Stowfinish$Ways", "hull", "LStowfinish$Hull;", true)
def tyX5 : Nat → FieldType := fun k => match k with
  | _ => .object "Stowfinish$Hull"
abbrev wsX50 : List Cond := u_ws RX5 TX5 1
theorem nmX5 : ∀ a, a < 1 → ∀ b, b < 1 → a ≠ b → (TX5 a).2.1 ≠ (TX5 b).2.1 := by decide +kernel
theorem tyX5_ok : ∀ k, k < 1 → parseFieldDescriptor (TX5 k).2.2.1 = some (tyX5 k) := by decide +kernel
abbrev cX5_init : ByteArray := prog_7_method_1_code
def yX5_init : MethodName := ⟨RX5, "<init>", "(LStowfinish$Hull;)V"⟩
abbrev cX5_seek : ByteArray := prog_7_method_2_code
def yX5_seek : MethodName := ⟨RX5, "seek", "(LStowfinish$Room;LStowfinish$Room;)[I"⟩
abbrev cX5_measure : ByteArray := prog_7_method_3_code
def yX5_measure : MethodName := ⟨RX5, "measure", "(LStowfinish$Room;)V"⟩
abbrev cX5_spreadAll : ByteArray := prog_7_method_4_code
def yX5_spreadAll : MethodName := ⟨RX5, "spreadAll", "(I)Z"⟩
abbrev cX5_spread : ByteArray := prog_7_method_5_code
def yX5_spread : MethodName := ⟨RX5, "spread", "(LStowfinish$Room;)Z"⟩
abbrev cX5_lowestNearer : ByteArray := prog_7_method_6_code
def yX5_lowestNearer : MethodName := ⟨RX5, "lowestNearer", "(LStowfinish$Room;)LStowfinish$Room;"⟩
abbrev cX5_through : ByteArray := prog_7_method_7_code
def yX5_through : MethodName := ⟨RX5, "through", "(LStowfinish$Room;I)LStowfinish$Room;"⟩
def RX6 : String := "Stowfinish$Weld"
def TX6 : u_T := fun k => match k with
  | 0 => ("Stowfinish$Weld", "block", "LStowfinish$Block;", true)
  | 1 => ("Stowfinish$Weld", "frame", "I", true)
  | 2 => ("Stowfinish$Weld", "state", "I", false)
  | 3 => ("Stowfinish$Weld", "repairs", "I", false)
  | _ => ("Stowfinish$Weld", "isFlawed", "Z", false)
def tyX6 : Nat → FieldType := fun k => match k with
  | 0 => .object "Stowfinish$Block"
  | 1 => .int
  | 2 => .int
  | 3 => .int
  | _ => .boolean
abbrev wsX60 : List Cond := u_ws RX6 TX6 5
theorem nmX6 : ∀ a, a < 5 → ∀ b, b < 5 → a ≠ b → (TX6 a).2.1 ≠ (TX6 b).2.1 := by decide +kernel
theorem tyX6_ok : ∀ k, k < 5 → parseFieldDescriptor (TX6 k).2.2.1 = some (tyX6 k) := by decide +kernel
abbrev cX6_init : ByteArray := prog_8_method_1_code
def yX6_init : MethodName := ⟨RX6, "<init>", "(LStowfinish$Block;I)V"⟩
abbrev cX6_isScrapped : ByteArray := prog_8_method_2_code
def yX6_isScrapped : MethodName := ⟨RX6, "isScrapped", "()Z"⟩
abbrev cX6_isStanding : ByteArray := prog_8_method_3_code
def yX6_isStanding : MethodName := ⟨RX6, "isStanding", "()Z"⟩
abbrev cX6_fact : ByteArray := prog_8_method_4_code
def yX6_fact : MethodName := ⟨RX6, "fact", "(I)I"⟩
def RX7 : String := "Stowfinish$Welders"
def TX7 : u_T := fun k => match k with
  | 0 => ("Stowfinish$Welders", "flaws", "[I", true)
  | _ => ("Stowfinish$Welders", "x", "I", false)
def tyX7 : Nat → FieldType := fun k => match k with
  | 0 => .array .int
  | _ => .int
abbrev wsX70 : List Cond := u_ws RX7 TX7 2
theorem nmX7 : ∀ a, a < 2 → ∀ b, b < 2 → a ≠ b → (TX7 a).2.1 ≠ (TX7 b).2.1 := by decide +kernel
theorem tyX7_ok : ∀ k, k < 2 → parseFieldDescriptor (TX7 k).2.2.1 = some (tyX7 k) := by decide +kernel
abbrev cX7_init : ByteArray := prog_9_method_1_code
def yX7_init : MethodName := ⟨RX7, "<init>", "()V"⟩
abbrev cX7_has : ByteArray := prog_9_method_2_code
def yX7_has : MethodName := ⟨RX7, "has", "(I)Z"⟩
abbrev cX7_drawFlaw : ByteArray := prog_9_method_3_code
def yX7_drawFlaw : MethodName := ⟨RX7, "drawFlaw", "(I)Z"⟩
def RX8 : String := "Stowfinish"
def TX8 : u_T := fun k => match k with
  | 0 => ("Stowfinish", "blocks", "[LStowfinish$Block;", true)
  | 1 => ("Stowfinish", "welds", "[LStowfinish$Weld;", true)
  | 2 => ("Stowfinish", "pipes", "[LStowfinish$Pipe;", true)
  | 3 => ("Stowfinish", "hull", "LStowfinish$Hull;", true)
  | 4 => ("Stowfinish", "ways", "LStowfinish$Ways;", true)
  | 5 => ("Stowfinish", "welders", "LStowfinish$Welders;", true)
  | 6 => ("Stowfinish", "ledger", "LStowfinish$Ledger;", true)
  | 7 => ("Stowfinish", "blockCount", "I", false)
  | 8 => ("Stowfinish", "weldCount", "I", false)
  | 9 => ("Stowfinish", "pipeCount", "I", false)
  | 10 => ("Stowfinish", "doorFrames", "I", false)
  | 11 => ("Stowfinish", "hallTons", "I", false)
  | 12 => ("Stowfinish", "craneFrame", "I", false)
  | 13 => ("Stowfinish", "craneTons", "I", false)
  | _ => ("Stowfinish", "isLaunched", "Z", false)
def tyX8 : Nat → FieldType := fun k => match k with
  | 0 => .array (.object "Stowfinish$Block")
  | 1 => .array (.object "Stowfinish$Weld")
  | 2 => .array (.object "Stowfinish$Pipe")
  | 3 => .object "Stowfinish$Hull"
  | 4 => .object "Stowfinish$Ways"
  | 5 => .object "Stowfinish$Welders"
  | 6 => .object "Stowfinish$Ledger"
  | 7 => .int
  | 8 => .int
  | 9 => .int
  | 10 => .int
  | 11 => .int
  | 12 => .int
  | 13 => .int
  | _ => .boolean
abbrev wsX80 : List Cond := u_ws RX8 TX8 15
theorem nmX8 : ∀ a, a < 15 → ∀ b, b < 15 → a ≠ b → (TX8 a).2.1 ≠ (TX8 b).2.1 := by decide +kernel
theorem tyX8_ok : ∀ k, k < 15 → parseFieldDescriptor (TX8 k).2.2.1 = some (tyX8 k) := by decide +kernel
abbrev cX8_init : ByteArray := prog_1_method_1_code
def yX8_init : MethodName := ⟨RX8, "<init>", "()V"⟩
abbrev cX8_hall : ByteArray := prog_1_method_2_code
def yX8_hall : MethodName := ⟨RX8, "hall", "(II)I"⟩
abbrev cX8_crane : ByteArray := prog_1_method_3_code
def yX8_crane : MethodName := ⟨RX8, "crane", "(II)I"⟩
abbrev cX8_welder : ByteArray := prog_1_method_4_code
def yX8_welder : MethodName := ⟨RX8, "welder", "(II)I"⟩
abbrev cX8_draw : ByteArray := prog_1_method_5_code
def yX8_draw : MethodName := ⟨RX8, "draw", "(I)I"⟩
abbrev cX8_block : ByteArray := prog_1_method_6_code
def yX8_block : MethodName := ⟨RX8, "block", "(IIIIII)I"⟩
abbrev cX8_join : ByteArray := prog_1_method_7_code
def yX8_join : MethodName := ⟨RX8, "join", "(III)I"⟩
abbrev cX8_erect : ByteArray := prog_1_method_8_code
def yX8_erect : MethodName := ⟨RX8, "erect", "(II)I"⟩
abbrev cX8_scrap : ByteArray := prog_1_method_9_code
def yX8_scrap : MethodName := ⟨RX8, "scrap", "(I)I"⟩
abbrev cX8_test : ByteArray := prog_1_method_10_code
def yX8_test : MethodName := ⟨RX8, "test", "(I)I"⟩
abbrev cX8_repair : ByteArray := prog_1_method_11_code
def yX8_repair : MethodName := ⟨RX8, "repair", "(II)I"⟩
abbrev cX8_hole : ByteArray := prog_1_method_12_code
def yX8_hole : MethodName := ⟨RX8, "hole", "(IZ)I"⟩
abbrev cX8_paint : ByteArray := prog_1_method_13_code
def yX8_paint : MethodName := ⟨RX8, "paint", "(I)I"⟩
abbrev cX8_fit : ByteArray := prog_1_method_14_code
def yX8_fit : MethodName := ⟨RX8, "fit", "(II)I"⟩
abbrev cX8_pipe : ByteArray := prog_1_method_15_code
def yX8_pipe : MethodName := ⟨RX8, "pipe", "(II)I"⟩
abbrev cX8_launch : ByteArray := prog_1_method_16_code
def yX8_launch : MethodName := ⟨RX8, "launch", "(I)I"⟩
abbrev cX8_blocks : ByteArray := prog_1_method_17_code
def yX8_blocks : MethodName := ⟨RX8, "blocks", "()I"⟩
abbrev cX8_welds : ByteArray := prog_1_method_18_code
def yX8_welds : MethodName := ⟨RX8, "welds", "()I"⟩
abbrev cX8_isAfloat : ByteArray := prog_1_method_19_code
def yX8_isAfloat : MethodName := ⟨RX8, "isAfloat", "()Z"⟩
abbrev cX8_whyNot : ByteArray := prog_1_method_20_code
def yX8_whyNot : MethodName := ⟨RX8, "whyNot", "(I)I"⟩
abbrev cX8_told : ByteArray := prog_1_method_21_code
def yX8_told : MethodName := ⟨RX8, "told", "(II)I"⟩
abbrev cX8_weld : ByteArray := prog_1_method_22_code
def yX8_weld : MethodName := ⟨RX8, "weld", "(II)I"⟩
abbrev cX8_cell : ByteArray := prog_1_method_23_code
def yX8_cell : MethodName := ⟨RX8, "cell", "(II)I"⟩
abbrev cX8_roomAt : ByteArray := prog_1_method_24_code
def yX8_roomAt : MethodName := ⟨RX8, "roomAt", "(II)I"⟩
abbrev cX8_tons : ByteArray := prog_1_method_25_code
def yX8_tons : MethodName := ⟨RX8, "tons", "()I"⟩
abbrev cX8_tonsAnew : ByteArray := prog_1_method_26_code
def yX8_tonsAnew : MethodName := ⟨RX8, "tonsAnew", "()I"⟩
abbrev cX8_centre : ByteArray := prog_1_method_27_code
def yX8_centre : MethodName := ⟨RX8, "centre", "()I"⟩
abbrev cX8_draught : ByteArray := prog_1_method_28_code
def yX8_draught : MethodName := ⟨RX8, "draught", "(Z)I"⟩
abbrev cX8_water : ByteArray := prog_1_method_29_code
def yX8_water : MethodName := ⟨RX8, "water", "(I)I"⟩
abbrev cX8_firstHour : ByteArray := prog_1_method_30_code
def yX8_firstHour : MethodName := ⟨RX8, "firstHour", "()I"⟩
abbrev cX8_money : ByteArray := prog_1_method_31_code
def yX8_money : MethodName := ⟨RX8, "money", "()I"⟩
abbrev cX8_moneyAnew : ByteArray := prog_1_method_32_code
def yX8_moneyAnew : MethodName := ⟨RX8, "moneyAnew", "()I"⟩
abbrev cX8_isWithin : ByteArray := prog_1_method_33_code
def yX8_isWithin : MethodName := ⟨RX8, "isWithin", "(III)Z"⟩
abbrev cX8_isFrame : ByteArray := prog_1_method_34_code
def yX8_isFrame : MethodName := ⟨RX8, "isFrame", "(I)Z"⟩
abbrev cX8_cellOf : ByteArray := prog_1_method_35_code
def yX8_cellOf : MethodName := ⟨RX8, "cellOf", "(II)I"⟩
abbrev cX8_waterAt : ByteArray := prog_1_method_36_code
def yX8_waterAt : MethodName := ⟨RX8, "waterAt", "(I)I"⟩
abbrev cX8_blockOf : ByteArray := prog_1_method_37_code
def yX8_blockOf : MethodName := ⟨RX8, "blockOf", "(I)LStowfinish$Block;"⟩
abbrev cX8_weldOf : ByteArray := prog_1_method_38_code
def yX8_weldOf : MethodName := ⟨RX8, "weldOf", "(I)LStowfinish$Weld;"⟩
abbrev cX8_hasSpaceForBlock : ByteArray := prog_1_method_39_code
def yX8_hasSpaceForBlock : MethodName := ⟨RX8, "hasSpaceForBlock", "()Z"⟩
abbrev cX8_hasSpaceForWelds : ByteArray := prog_1_method_40_code
def yX8_hasSpaceForWelds : MethodName := ⟨RX8, "hasSpaceForWelds", "(I)Z"⟩
abbrev cX8_keep : ByteArray := prog_1_method_41_code
def yX8_keep : MethodName := ⟨RX8, "keep", "(LStowfinish$Block;)I"⟩
abbrev cX8_canJoin : ByteArray := prog_1_method_42_code
def yX8_canJoin : MethodName := ⟨RX8, "canJoin", "(LStowfinish$Block;LStowfinish$Block;)Z"⟩
abbrev cX8_tonsTogether : ByteArray := prog_1_method_43_code
def yX8_tonsTogether : MethodName := ⟨RX8, "tonsTogether", "(LStowfinish$Block;LStowfinish$Block;)I"⟩
abbrev cX8_becomePart : ByteArray := prog_1_method_44_code
def yX8_becomePart : MethodName := ⟨RX8, "becomePart", "(LStowfinish$Block;LStowfinish$Block;)V"⟩
abbrev cX8_makeWeld : ByteArray := prog_1_method_45_code
def yX8_makeWeld : MethodName := ⟨RX8, "makeWeld", "(LStowfinish$Block;II)V"⟩
abbrev cX8_weldNow : ByteArray := prog_1_method_46_code
def yX8_weldNow : MethodName := ⟨RX8, "weldNow", "(LStowfinish$Weld;I)V"⟩
abbrev cX8_spoilAt : ByteArray := prog_1_method_47_code
def yX8_spoilAt : MethodName := ⟨RX8, "spoilAt", "(II)V"⟩
abbrev cX8_reasonAgainst : ByteArray := prog_1_method_48_code
def yX8_reasonAgainst : MethodName := ⟨RX8, "reasonAgainst", "(LStowfinish$Block;)I"⟩
abbrev cX8_isSomeFilled : ByteArray := prog_1_method_49_code
def yX8_isSomeFilled : MethodName := ⟨RX8, "isSomeFilled", "(LStowfinish$Block;)Z"⟩
abbrev cX8_isSomeBelowEmpty : ByteArray := prog_1_method_50_code
def yX8_isSomeBelowEmpty : MethodName := ⟨RX8, "isSomeBelowEmpty", "(LStowfinish$Block;)Z"⟩
abbrev cX8_liftOver : ByteArray := prog_1_method_51_code
def yX8_liftOver : MethodName := ⟨RX8, "liftOver", "(LStowfinish$Block;)I"⟩
abbrev cX8_isMisfit : ByteArray := prog_1_method_52_code
def yX8_isMisfit : MethodName := ⟨RX8, "isMisfit", "(LStowfinish$Block;)Z"⟩
abbrev cX8_neighbourAhead : ByteArray := prog_1_method_53_code
def yX8_neighbourAhead : MethodName := ⟨RX8, "neighbourAhead", "(LStowfinish$Block;)LStowfinish$Block;"⟩
abbrev cX8_neighbourBehind : ByteArray := prog_1_method_54_code
def yX8_neighbourBehind : MethodName := ⟨RX8, "neighbourBehind", "(LStowfinish$Block;)LStowfinish$Block;"⟩
abbrev cX8_excess : ByteArray := prog_1_method_55_code
def yX8_excess : MethodName := ⟨RX8, "excess", "(LStowfinish$Block;LStowfinish$Block;LStowfinish$Block;)I"⟩
abbrev cX8_beginOf : ByteArray := prog_1_method_56_code
def yX8_beginOf : MethodName := ⟨RX8, "beginOf", "(LStowfinish$Block;LStowfinish$Block;LStowfinish$Block;)I"⟩
abbrev cX8_roomNextTo : ByteArray := prog_1_method_57_code
def yX8_roomNextTo : MethodName := ⟨RX8, "roomNextTo", "(LStowfinish$Room;Z)LStowfinish$Room;"⟩
abbrev cX8_runThrough : ByteArray := prog_1_method_58_code
def yX8_runThrough : MethodName := ⟨RX8, "runThrough", "([I)V"⟩
abbrev cX8_isReady : ByteArray := prog_1_method_59_code
def yX8_isReady : MethodName := ⟨RX8, "isReady", "()Z"⟩
def RX9 : String := "StowfinishModel"
def TX9 : u_T := fun k => match k with
  | 0 => ("StowfinishModel", "door", "I", false)
  | 1 => ("StowfinishModel", "holds", "I", false)
  | 2 => ("StowfinishModel", "craneAt", "I", false)
  | 3 => ("StowfinishModel", "lifts", "I", false)
  | 4 => ("StowfinishModel", "x", "I", false)
  | 5 => ("StowfinishModel", "flaws", "[I", true)
  | 6 => ("StowfinishModel", "isAfloat", "Z", false)
  | 7 => ("StowfinishModel", "money", "I", false)
  | 8 => ("StowfinishModel", "blocks", "I", false)
  | 9 => ("StowfinishModel", "state", "[I", true)
  | 10 => ("StowfinishModel", "first", "[I", true)
  | 11 => ("StowfinishModel", "last", "[I", true)
  | 12 => ("StowfinishModel", "level", "[I", true)
  | 13 => ("StowfinishModel", "tons", "[I", true)
  | 14 => ("StowfinishModel", "length", "[I", true)
  | 15 => ("StowfinishModel", "lugs", "[I", true)
  | 16 => ("StowfinishModel", "begin", "[I", true)
  | 17 => ("StowfinishModel", "madeIn", "[I", true)
  | 18 => ("StowfinishModel", "welds", "I", false)
  | 19 => ("StowfinishModel", "weldState", "[I", true)
  | 20 => ("StowfinishModel", "isFlawed", "[Z", true)
  | 21 => ("StowfinishModel", "repairs", "[I", true)
  | 22 => ("StowfinishModel", "weldFrame", "[I", true)
  | 23 => ("StowfinishModel", "weldLevel", "[I", true)
  | 24 => ("StowfinishModel", "weldBlock", "[I", true)
  | 25 => ("StowfinishModel", "filledBy", "[I", true)
  | 26 => ("StowfinishModel", "isPainted", "[Z", true)
  | 27 => ("StowfinishModel", "things", "[I", true)
  | 28 => ("StowfinishModel", "pipesIn", "[I", true)
  | 29 => ("StowfinishModel", "holes", "[I", true)
  | 30 => ("StowfinishModel", "pipes", "I", false)
  | 31 => ("StowfinishModel", "pipeRooms", "[I", true)
  | 32 => ("StowfinishModel", "pipeRoom", "[I", true)
  | 33 => ("StowfinishModel", "far", "[I", true)
  | _ => ("StowfinishModel", "thrown", "I", false)
def tyX9 : Nat → FieldType := fun k => match k with
  | 0 => .int
  | 1 => .int
  | 2 => .int
  | 3 => .int
  | 4 => .int
  | 5 => .array .int
  | 6 => .boolean
  | 7 => .int
  | 8 => .int
  | 9 => .array .int
  | 10 => .array .int
  | 11 => .array .int
  | 12 => .array .int
  | 13 => .array .int
  | 14 => .array .int
  | 15 => .array .int
  | 16 => .array .int
  | 17 => .array .int
  | 18 => .int
  | 19 => .array .int
  | 20 => .array .boolean
  | 21 => .array .int
  | 22 => .array .int
  | 23 => .array .int
  | 24 => .array .int
  | 25 => .array .int
  | 26 => .array .boolean
  | 27 => .array .int
  | 28 => .array .int
  | 29 => .array .int
  | 30 => .int
  | 31 => .array .int
  | 32 => .array .int
  | 33 => .array .int
  | _ => .int
abbrev wsX90 : List Cond := u_ws RX9 TX9 35
theorem nmX9 : ∀ a, a < 35 → ∀ b, b < 35 → a ≠ b → (TX9 a).2.1 ≠ (TX9 b).2.1 := by decide +kernel
theorem tyX9_ok : ∀ k, k < 35 → parseFieldDescriptor (TX9 k).2.2.1 = some (tyX9 k) := by decide +kernel
abbrev cX9_init : ByteArray := prog_11_method_1_code
def yX9_init : MethodName := ⟨RX9, "<init>", "()V"⟩
abbrev cX9_thrown : ByteArray := prog_11_method_2_code
def yX9_thrown : MethodName := ⟨RX9, "thrown", "()I"⟩
abbrev cX9_fails : ByteArray := prog_11_method_3_code
def yX9_fails : MethodName := ⟨RX9, "fails", "(I)Z"⟩
abbrev cX9_isIn : ByteArray := prog_11_method_4_code
def yX9_isIn : MethodName := ⟨RX9, "isIn", "(III)Z"⟩
abbrev cX9_isFrame : ByteArray := prog_11_method_5_code
def yX9_isFrame : MethodName := ⟨RX9, "isFrame", "(I)Z"⟩
abbrev cX9_isLevel : ByteArray := prog_11_method_6_code
def yX9_isLevel : MethodName := ⟨RX9, "isLevel", "(I)Z"⟩
abbrev cX9_isWelder : ByteArray := prog_11_method_7_code
def yX9_isWelder : MethodName := ⟨RX9, "isWelder", "(I)Z"⟩
abbrev cX9_isBlock : ByteArray := prog_11_method_8_code
def yX9_isBlock : MethodName := ⟨RX9, "isBlock", "(I)Z"⟩
abbrev cX9_isWeld : ByteArray := prog_11_method_9_code
def yX9_isWeld : MethodName := ⟨RX9, "isWeld", "(I)Z"⟩
abbrev cX9_isRoom : ByteArray := prog_11_method_10_code
def yX9_isRoom : MethodName := ⟨RX9, "isRoom", "(I)Z"⟩
abbrev cX9_hall : ByteArray := prog_11_method_11_code
def yX9_hall : MethodName := ⟨RX9, "hall", "(II)I"⟩
abbrev cX9_crane : ByteArray := prog_11_method_12_code
def yX9_crane : MethodName := ⟨RX9, "crane", "(II)I"⟩
abbrev cX9_welder : ByteArray := prog_11_method_13_code
def yX9_welder : MethodName := ⟨RX9, "welder", "(II)I"⟩
abbrev cX9_draw : ByteArray := prog_11_method_14_code
def yX9_draw : MethodName := ⟨RX9, "draw", "(I)I"⟩
abbrev cX9_adds : ByteArray := prog_11_method_15_code
def yX9_adds : MethodName := ⟨RX9, "adds", "(IIIIII)I"⟩
abbrev cX9_block : ByteArray := prog_11_method_16_code
def yX9_block : MethodName := ⟨RX9, "block", "(IIIIII)I"⟩
abbrev cX9_draws : ByteArray := prog_11_method_17_code
def yX9_draws : MethodName := ⟨RX9, "draws", "(II)V"⟩
abbrev cX9_makes : ByteArray := prog_11_method_18_code
def yX9_makes : MethodName := ⟨RX9, "makes", "(IIII)V"⟩
abbrev cX9_canJoin : ByteArray := prog_11_method_19_code
def yX9_canJoin : MethodName := ⟨RX9, "canJoin", "(II)Z"⟩
abbrev cX9_join : ByteArray := prog_11_method_20_code
def yX9_join : MethodName := ⟨RX9, "join", "(III)I"⟩
abbrev cX9_blockAt : ByteArray := prog_11_method_21_code
def yX9_blockAt : MethodName := ⟨RX9, "blockAt", "(II)I"⟩
abbrev cX9_endOf : ByteArray := prog_11_method_22_code
def yX9_endOf : MethodName := ⟨RX9, "endOf", "(I)I"⟩
abbrev cX9_space : ByteArray := prog_11_method_23_code
def yX9_space : MethodName := ⟨RX9, "space", "(II)I"⟩
abbrev cX9_reason : ByteArray := prog_11_method_24_code
def yX9_reason : MethodName := ⟨RX9, "reason", "(I)I"⟩
abbrev cX9_spoils : ByteArray := prog_11_method_25_code
def yX9_spoils : MethodName := ⟨RX9, "spoils", "(II)V"⟩
abbrev cX9_erect : ByteArray := prog_11_method_26_code
def yX9_erect : MethodName := ⟨RX9, "erect", "(II)I"⟩
abbrev cX9_whole : ByteArray := prog_11_method_27_code
def yX9_whole : MethodName := ⟨RX9, "whole", "(I)I"⟩
abbrev cX9_scrap : ByteArray := prog_11_method_28_code
def yX9_scrap : MethodName := ⟨RX9, "scrap", "(I)I"⟩
abbrev cX9_isScrapped : ByteArray := prog_11_method_29_code
def yX9_isScrapped : MethodName := ⟨RX9, "isScrapped", "(I)Z"⟩
abbrev cX9_test : ByteArray := prog_11_method_30_code
def yX9_test : MethodName := ⟨RX9, "test", "(I)I"⟩
abbrev cX9_stands : ByteArray := prog_11_method_31_code
def yX9_stands : MethodName := ⟨RX9, "stands", "(I)Z"⟩
abbrev cX9_repair : ByteArray := prog_11_method_32_code
def yX9_repair : MethodName := ⟨RX9, "repair", "(II)I"⟩
abbrev cX9_hole : ByteArray := prog_11_method_33_code
def yX9_hole : MethodName := ⟨RX9, "hole", "(IZ)I"⟩
abbrev cX9_paint : ByteArray := prog_11_method_34_code
def yX9_paint : MethodName := ⟨RX9, "paint", "(I)I"⟩
abbrev cX9_fit : ByteArray := prog_11_method_35_code
def yX9_fit : MethodName := ⟨RX9, "fit", "(II)I"⟩
abbrev cX9_beyond : ByteArray := prog_11_method_36_code
def yX9_beyond : MethodName := ⟨RX9, "beyond", "(II)I"⟩
abbrev cX9_ways : ByteArray := prog_11_method_37_code
def yX9_ways : MethodName := ⟨RX9, "ways", "(I)V"⟩
abbrev cX9_nearer : ByteArray := prog_11_method_38_code
def yX9_nearer : MethodName := ⟨RX9, "nearer", "(I)I"⟩
abbrev cX9_pipe : ByteArray := prog_11_method_39_code
def yX9_pipe : MethodName := ⟨RX9, "pipe", "(II)I"⟩
abbrev cX9_tonsOf : ByteArray := prog_11_method_40_code
def yX9_tonsOf : MethodName := ⟨RX9, "tonsOf", "()I"⟩
abbrev cX9_centreOf : ByteArray := prog_11_method_41_code
def yX9_centreOf : MethodName := ⟨RX9, "centreOf", "()I"⟩
abbrev cX9_draughtOf : ByteArray := prog_11_method_42_code
def yX9_draughtOf : MethodName := ⟨RX9, "draughtOf", "(Z)I"⟩
abbrev cX9_greater : ByteArray := prog_11_method_43_code
def yX9_greater : MethodName := ⟨RX9, "greater", "()I"⟩
abbrev cX9_waterIn : ByteArray := prog_11_method_44_code
def yX9_waterIn : MethodName := ⟨RX9, "waterIn", "(I)I"⟩
abbrev cX9_isWhole : ByteArray := prog_11_method_45_code
def yX9_isWhole : MethodName := ⟨RX9, "isWhole", "()Z"⟩
abbrev cX9_canLaunch : ByteArray := prog_11_method_46_code
def yX9_canLaunch : MethodName := ⟨RX9, "canLaunch", "(I)Z"⟩
abbrev cX9_launch : ByteArray := prog_11_method_47_code
def yX9_launch : MethodName := ⟨RX9, "launch", "(I)I"⟩
abbrev cX9_tells : ByteArray := prog_11_method_48_code
def yX9_tells : MethodName := ⟨RX9, "tells", "(I)I"⟩
abbrev cX9_blocks : ByteArray := prog_11_method_49_code
def yX9_blocks : MethodName := ⟨RX9, "blocks", "()I"⟩
abbrev cX9_welds : ByteArray := prog_11_method_50_code
def yX9_welds : MethodName := ⟨RX9, "welds", "()I"⟩
abbrev cX9_isAfloat : ByteArray := prog_11_method_51_code
def yX9_isAfloat : MethodName := ⟨RX9, "isAfloat", "()Z"⟩
abbrev cX9_whyNot : ByteArray := prog_11_method_52_code
def yX9_whyNot : MethodName := ⟨RX9, "whyNot", "(I)I"⟩
abbrev cX9_told : ByteArray := prog_11_method_53_code
def yX9_told : MethodName := ⟨RX9, "told", "(II)I"⟩
abbrev cX9_weld : ByteArray := prog_11_method_54_code
def yX9_weld : MethodName := ⟨RX9, "weld", "(II)I"⟩
abbrev cX9_cell : ByteArray := prog_11_method_55_code
def yX9_cell : MethodName := ⟨RX9, "cell", "(II)I"⟩
abbrev cX9_roomAt : ByteArray := prog_11_method_56_code
def yX9_roomAt : MethodName := ⟨RX9, "roomAt", "(II)I"⟩
abbrev cX9_tons : ByteArray := prog_11_method_57_code
def yX9_tons : MethodName := ⟨RX9, "tons", "()I"⟩
abbrev cX9_tonsAnew : ByteArray := prog_11_method_58_code
def yX9_tonsAnew : MethodName := ⟨RX9, "tonsAnew", "()I"⟩
abbrev cX9_centre : ByteArray := prog_11_method_59_code
def yX9_centre : MethodName := ⟨RX9, "centre", "()I"⟩
abbrev cX9_draught : ByteArray := prog_11_method_60_code
def yX9_draught : MethodName := ⟨RX9, "draught", "(Z)I"⟩
abbrev cX9_water : ByteArray := prog_11_method_61_code
def yX9_water : MethodName := ⟨RX9, "water", "(I)I"⟩
abbrev cX9_firstHour : ByteArray := prog_11_method_62_code
def yX9_firstHour : MethodName := ⟨RX9, "firstHour", "()I"⟩
abbrev cX9_money : ByteArray := prog_11_method_63_code
def yX9_money : MethodName := ⟨RX9, "money", "()I"⟩
abbrev cX9_moneyAnew : ByteArray := prog_11_method_64_code
def yX9_moneyAnew : MethodName := ⟨RX9, "moneyAnew", "()I"⟩
def RJ9 : String := "java/lang/Math"
abbrev cJ9_abs_0f7a4 : ByteArray := prog_16_method_59_code
def yJ9_abs_0f7a4 : MethodName := ⟨RJ9, "abs", "(I)I"⟩
abbrev cJ9_max_7cf53 : ByteArray := prog_16_method_65_code
def yJ9_max_7cf53 : MethodName := ⟨RJ9, "max", "(II)I"⟩
abbrev cJ9_min_7cf53 : ByteArray := prog_16_method_69_code
def yJ9_min_7cf53 : MethodName := ⟨RJ9, "min", "(II)I"⟩
def RJ7 : String := "java/util/Arrays"
abbrev cJ7_fill_53178 : ByteArray := prog_20_method_103_code
def yJ7_fill_53178 : MethodName := ⟨RJ7, "fill", "([II)V"⟩
def RL : String := "StowfinishLaw"
abbrev cL_hall : ByteArray := method_3_code
def yL_hall : MethodName := ⟨RL, "hall", "(LStowfinish;II[J)I"⟩
abbrev cL_crane : ByteArray := method_4_code
def yL_crane : MethodName := ⟨RL, "crane", "(LStowfinish;II[J)I"⟩
abbrev cL_welder : ByteArray := method_5_code
def yL_welder : MethodName := ⟨RL, "welder", "(LStowfinish;II[J)I"⟩
abbrev cL_block : ByteArray := method_6_code
def yL_block : MethodName := ⟨RL, "block", "(LStowfinish;IIIIII[J)I"⟩
abbrev cL_join : ByteArray := method_7_code
def yL_join : MethodName := ⟨RL, "join", "(LStowfinish;III[J)I"⟩
abbrev cL_erect : ByteArray := method_8_code
def yL_erect : MethodName := ⟨RL, "erect", "(LStowfinish;II[J)I"⟩
abbrev cL_scrap : ByteArray := method_9_code
def yL_scrap : MethodName := ⟨RL, "scrap", "(LStowfinish;I[J)I"⟩
abbrev cL_test : ByteArray := method_10_code
def yL_test : MethodName := ⟨RL, "test", "(LStowfinish;I[J)I"⟩
abbrev cL_repair : ByteArray := method_11_code
def yL_repair : MethodName := ⟨RL, "repair", "(LStowfinish;II[J)I"⟩
abbrev cL_hole : ByteArray := method_12_code
def yL_hole : MethodName := ⟨RL, "hole", "(LStowfinish;IZ[J)I"⟩
abbrev cL_paint : ByteArray := method_13_code
def yL_paint : MethodName := ⟨RL, "paint", "(LStowfinish;I[J)I"⟩
abbrev cL_fit : ByteArray := method_14_code
def yL_fit : MethodName := ⟨RL, "fit", "(LStowfinish;II[J)I"⟩
abbrev cL_pipe : ByteArray := method_15_code
def yL_pipe : MethodName := ⟨RL, "pipe", "(LStowfinish;II[J)I"⟩
abbrev cL_launch : ByteArray := method_16_code
def yL_launch : MethodName := ⟨RL, "launch", "(LStowfinish;I[J)I"⟩
abbrev cL_whyNot : ByteArray := method_17_code
def yL_whyNot : MethodName := ⟨RL, "whyNot", "(LStowfinish;I[J)I"⟩
abbrev cL_told : ByteArray := method_18_code
def yL_told : MethodName := ⟨RL, "told", "(LStowfinish;II[J)I"⟩
abbrev cL_weld : ByteArray := method_19_code
def yL_weld : MethodName := ⟨RL, "weld", "(LStowfinish;II[J)I"⟩
abbrev cL_cell : ByteArray := method_20_code
def yL_cell : MethodName := ⟨RL, "cell", "(LStowfinish;II[J)I"⟩
abbrev cL_roomAt : ByteArray := method_21_code
def yL_roomAt : MethodName := ⟨RL, "roomAt", "(LStowfinish;II[J)I"⟩
abbrev cL_water : ByteArray := method_22_code
def yL_water : MethodName := ⟨RL, "water", "(LStowfinish;I[J)I"⟩
abbrev cL_law : ByteArray := code
def yL_law : MethodName := ⟨RL, "law", "([I)Z"⟩
abbrev vwCl : List vw_C := [(RX0, TX0, 10), (RX1, TX1, 3), (RX2, TX2, 3), (RX3, TX3, 1), (RX4, TX4, 7), (RX5, TX5, 1), (RX6, TX6, 5), (RX7, TX7, 2), (RX8, TX8, 15), (RX9, TX9, 35)]
end
section

/-! THE JUDGEMENT X: an abstract heap (kinds, lengths, numbers, references), the machine hidden in one definition; a rule an instruction. -/
abbrev AH : Type := (Nat → Nat) × (Nat → Nat) × (Nat → Nat → Int32) × (Nat → Nat → Option Nat) × (Nat → Nat → Int64)
def gT (h : AH) (a : Nat) : Nat := h.1 a
def gN (h : AH) (a : Nat) : Nat := h.2.1 a
def gI (h : AH) (a k : Nat) : Int32 := h.2.2.1 a k
def gR (h : AH) (a k : Nat) : Option Nat := h.2.2.2.1 a k
def gL (h : AH) (a k : Nat) : Int64 := h.2.2.2.2 a k
def u2 {α : Type} (f : Nat → Nat → α) (a k : Nat) (v : α) : Nat → Nat → α := fun b j => if b = a ∧ j = k then v else f b j
def sI (h : AH) (a k : Nat) (v : Int32) : AH := (h.1, h.2.1, u2 h.2.2.1 a k v, h.2.2.2.1, h.2.2.2.2)
def sR (h : AH) (a k : Nat) (v : Option Nat) : AH := (h.1, h.2.1, h.2.2.1, u2 h.2.2.2.1 a k v, h.2.2.2.2)
def sL (h : AH) (a k : Nat) (v : Int64) : AH := (h.1, h.2.1, h.2.2.1, h.2.2.2.1, u2 h.2.2.2.2 a k v)
def nO (h : AH) (a t n : Nat) : AH := (fun b => if b = a then t else h.1 b, fun b => if b = a then n else h.2.1 b, fun b j => if b = a then 0 else h.2.2.1 b j, fun b j => if b = a then none else h.2.2.2.1 b j, fun b j => if b = a then 0 else h.2.2.2.2 b j)
theorem gT_sI {h : AH} {a k : Nat} {v : Int32} (b : Nat) : gT (sI h a k v) b = gT h b := rfl
theorem gN_sI {h : AH} {a k : Nat} {v : Int32} (b : Nat) : gN (sI h a k v) b = gN h b := rfl
theorem gR_sI {h : AH} {a k : Nat} {v : Int32} (b j : Nat) : gR (sI h a k v) b j = gR h b j := rfl
theorem gL_sI {h : AH} {a k : Nat} {v : Int32} (b j : Nat) : gL (sI h a k v) b j = gL h b j := rfl
theorem gI_sI {h : AH} {a k : Nat} {v : Int32} (b j : Nat) : gI (sI h a k v) b j = if b = a ∧ j = k then v else gI h b j := rfl
theorem gT_sR {h : AH} {a k : Nat} {v : Option Nat} (b : Nat) : gT (sR h a k v) b = gT h b := rfl
theorem gN_sR {h : AH} {a k : Nat} {v : Option Nat} (b : Nat) : gN (sR h a k v) b = gN h b := rfl
theorem gI_sR {h : AH} {a k : Nat} {v : Option Nat} (b j : Nat) : gI (sR h a k v) b j = gI h b j := rfl
theorem gL_sR {h : AH} {a k : Nat} {v : Option Nat} (b j : Nat) : gL (sR h a k v) b j = gL h b j := rfl
theorem gR_sR {h : AH} {a k : Nat} {v : Option Nat} (b j : Nat) : gR (sR h a k v) b j = if b = a ∧ j = k then v else gR h b j := rfl
theorem gT_sL {h : AH} {a k : Nat} {v : Int64} (b : Nat) : gT (sL h a k v) b = gT h b := rfl
theorem gN_sL {h : AH} {a k : Nat} {v : Int64} (b : Nat) : gN (sL h a k v) b = gN h b := rfl
theorem gI_sL {h : AH} {a k : Nat} {v : Int64} (b j : Nat) : gI (sL h a k v) b j = gI h b j := rfl
theorem gR_sL {h : AH} {a k : Nat} {v : Int64} (b j : Nat) : gR (sL h a k v) b j = gR h b j := rfl
theorem gL_sL {h : AH} {a k : Nat} {v : Int64} (b j : Nat) : gL (sL h a k v) b j = if b = a ∧ j = k then v else gL h b j := rfl
theorem gT_nO {h : AH} {a t n : Nat} (b : Nat) : gT (nO h a t n) b = if b = a then t else gT h b := rfl
theorem gN_nO {h : AH} {a t n : Nat} (b : Nat) : gN (nO h a t n) b = if b = a then n else gN h b := rfl
theorem gI_nO {h : AH} {a t n : Nat} (b j : Nat) : gI (nO h a t n) b j = if b = a then 0 else gI h b j := rfl
theorem gR_nO {h : AH} {a t n : Nat} (b j : Nat) : gR (nO h a t n) b j = if b = a then none else gR h b j := rfl
theorem gL_nO {h : AH} {a t n : Nat} (b j : Nat) : gL (nO h a t n) b j = if b = a then 0 else gL h b j := rfl
/-- the kinds: 1 .. 10 an object of class 0 .. 9; 11 int[], 12 boolean[], 13 long[], 14 Block[], 15 Weld[], 16 Pipe[], 17 Room[]. Which fields of a class are references -/
def clsL : List (List Bool) := [[false, false, false, false, false, false, false, false, false, true], [true, false, false], [true, false, false], [true], [false, true, false, false, false, false, false], [true], [true, false, false, false, false], [true, false], [true, true, true, true, true, true, true, false, false, false, false, false, false, false, false], [false, false, false, false, false, true, false, false, false, true, true, true, true, true, true, true, true, true, false, true, true, true, true, true, true, true, true, true, true, true, false, true, true, true, false]]
def ety (t : Nat) : FieldType := match t with
  | 11 => .int
  | 12 => .boolean
  | 13 => .long
  | 14 => .object "Stowfinish$Block"
  | 15 => .object "Stowfinish$Weld"
  | 16 => .object "Stowfinish$Pipe"
  | _ => .object "Stowfinish$Room"
def encF (h : AH) (a : Nat) : Nat → List Bool → List Value
  | _, [] => []
  | k, b :: r => (if b then va_rf (gR h a k) else .int (gI h a k)) :: encF h a (k + 1) r
def encA (h : AH) (a : Nat) : vp_A := match gT h a with
  | 11 => (gN h a, .inl (gI h a))
  | 12 => (gN h a, .inl (gI h a))
  | 13 => (gN h a, .inr (.inl (gL h a)))
  | _ => (gN h a, .inr (.inr (.inr (.inr (gR h a)))))
def En (tys : List (ClassId × FieldType)) (h : AH) (a : Nat) (e : va_E) : Prop :=
  (∃ (ci : Nat) (ks : List Bool), gT h a = ci + 1 ∧ ci < 10 ∧ clsL[ci]? = some ks ∧ e = .inr (ci, encF h a 0 ks)) ∨
  (∃ (cA : ClassId) (t0 : Nat), 11 ≤ gT h a ∧ gT h a ≤ 17 ∧ tys[t0]? = some (cA, ety (gT h a)) ∧ e = .inl (cA, encA h a))
def Em (tys : List (ClassId × FieldType)) (ws : va_W) (h : AH) : Prop := (∀ a : Nat, gT h a ≠ 0 → ∃ (q0 : Nat) (e : va_E), ws[q0]? = some (a, e) ∧ En tys h a e) ∧ ∀ (q0 a : Nat) (e : va_E), ws[q0]? = some (a, e) → gT h a ≠ 0
theorem encF_get (h : AH) (a : Nat) : ∀ (ks : List Bool) (k0 k : Nat) (b : Bool), ks[k]? = some b → (encF h a k0 ks)[k]? = some (if b then va_rf (gR h a (k0 + k)) else .int (gI h a (k0 + k)))
  | [], _, _, _, hk => by simp at hk
  | c :: r, k0, 0, b, hk => by
    simp at hk
    subst hk
    rfl
  | c :: r, k0, k + 1, b, hk => by
    have h1 := encF_get h a r (k0 + 1) k b (by simpa using hk)
    rw [show k0 + (k + 1) = k0 + 1 + k by omega]
    simpa [encF] using h1
theorem encF_len (h : AH) (a : Nat) : ∀ (ks : List Bool) (k0 : Nat), (encF h a k0 ks).length = ks.length
  | [], _ => rfl
  | c :: r, k0 => by simp [encF, encF_len h a r]
theorem encF_cong {h h' : AH} {a : Nat} (hi : ∀ j, gI h' a j = gI h a j) (hr : ∀ j, gR h' a j = gR h a j) : ∀ (ks : List Bool) (k0 : Nat), encF h' a k0 ks = encF h a k0 ks
  | [], _ => rfl
  | c :: r, k0 => by simp [encF, encF_cong hi hr r, hi, hr]
theorem encF_hi {h : AH} {a p : Nat} {v : Int32} : ∀ (ks : List Bool) (k0 : Nat), p < k0 → encF (sI h a p v) a k0 ks = encF h a k0 ks
  | [], _, _ => rfl
  | c :: r, k0, hp => by
    have hne : ¬ k0 = p := by omega
    have ih := encF_hi (h := h) (a := a) (p := p) (v := v) r (k0 + 1) (by omega)
    simp [encF, ih, gR_sI, gI_sI, hne]
theorem encF_setI {h : AH} {a : Nat} {v : Int32} : ∀ (ks : List Bool) (k0 k : Nat), ks[k]? = some false → (encF h a k0 ks).set k (.int v) = encF (sI h a (k0 + k) v) a k0 ks
  | [], _, _, hk => by simp at hk
  | c :: r, k0, 0, hk => by
    simp at hk
    subst hk
    have ih := encF_hi (h := h) (a := a) (p := k0) (v := v) r (k0 + 1) (Nat.lt_succ_self k0)
    simp [encF, ih, gI_sI]
  | c :: r, k0, k + 1, hk => by
    have h1 := encF_setI (h := h) (a := a) (v := v) r (k0 + 1) k (by simpa using hk)
    rw [show k0 + 1 + k = k0 + (k + 1) by omega] at h1
    have hne : ¬ k0 = k0 + (k + 1) := by omega
    simp [encF, List.set_cons_succ, h1, gR_sI, gI_sI, hne]
theorem encF_hiR {h : AH} {a p : Nat} {v : Option Nat} : ∀ (ks : List Bool) (k0 : Nat), p < k0 → encF (sR h a p v) a k0 ks = encF h a k0 ks
  | [], _, _ => rfl
  | c :: r, k0, hp => by
    have hne : ¬ k0 = p := by omega
    have ih := encF_hiR (h := h) (a := a) (p := p) (v := v) r (k0 + 1) (by omega)
    simp [encF, ih, gR_sR, gI_sR, hne]
theorem encF_setR {h : AH} {a : Nat} {v : Option Nat} : ∀ (ks : List Bool) (k0 k : Nat), ks[k]? = some true → (encF h a k0 ks).set k (va_rf v) = encF (sR h a (k0 + k) v) a k0 ks
  | [], _, _, hk => by simp at hk
  | c :: r, k0, 0, hk => by
    simp at hk
    subst hk
    have ih := encF_hiR (h := h) (a := a) (p := k0) (v := v) r (k0 + 1) (Nat.lt_succ_self k0)
    simp [encF, ih, gR_sR]
  | c :: r, k0, k + 1, hk => by
    have h1 := encF_setR (h := h) (a := a) (v := v) r (k0 + 1) k (by simpa using hk)
    rw [show k0 + 1 + k = k0 + (k + 1) by omega] at h1
    have hne : ¬ k0 = k0 + (k + 1) := by omega
    simp [encF, List.set_cons_succ, h1, gR_sR, gI_sR, hne]
/-- an entry is the same where the kind, the length and all that lies there is -/
theorem En.cong {tys : List (ClassId × FieldType)} {h h' : AH} {a : Nat} {e : va_E} (ht : gT h' a = gT h a) (hn : gN h' a = gN h a) (hi : ∀ j, gI h' a j = gI h a j) (hr : ∀ j, gR h' a j = gR h a j) (hl : ∀ j, gL h' a j = gL h a j) (H : En tys h a e) : En tys h' a e := by
  rcases H with ⟨ci, ks, h1, h2, h3, h4⟩ | ⟨cA, t0, h1, h2, h3, h4⟩
  · exact Or.inl ⟨ci, ks, by rw [ht, h1], h2, h3, by rw [encF_cong hi hr]; exact h4⟩
  · refine Or.inr ⟨cA, t0, by rw [ht]; exact h1, by rw [ht]; exact h2, by rw [ht]; exact h3, ?_⟩
    rw [h4]
    have e1 : gI h' a = gI h a := funext hi
    have e2 : gR h' a = gR h a := funext hr
    have e3 : gL h' a = gL h a := funext hl
    simp only [encA, ht, hn, e1, e2, e3]
theorem En.more {tys : List (ClassId × FieldType)} (x : List (ClassId × FieldType)) {h : AH} {a : Nat} {e : va_E} (H : En tys h a e) : En (tys ++ x) h a e := by
  rcases H with H | ⟨cA, t0, h1, h2, h3, h4⟩
  · exact Or.inl H
  · exact Or.inr ⟨cA, t0, h1, h2, by rw [List.getElem?_append_left (List.getElem?_eq_some_iff.mp h3).1]; exact h3, h4⟩
theorem Em.more {tys : List (ClassId × FieldType)} (x : List (ClassId × FieldType)) {ws : va_W} {h : AH} (H : Em tys ws h) : Em (tys ++ x) ws h :=
  ⟨fun a ha => by obtain ⟨q, e, h1, h2⟩ := H.1 a ha; exact ⟨q, e, h1, h2.more x⟩, H.2⟩
theorem Em.upd {tys : List (ClassId × FieldType)} {ws : va_W} {h h' : AH} {q0 a : Nat} {e0 e' : va_E} (hE : Em tys ws h) (h0 : ws[q0]? = some (a, e0)) (htag : ∀ b, gT h' b = gT h b) (heq : ∀ b, b ≠ a → ∀ e, En tys h b e → En tys h' b e) (hnew : En tys h' a e') : Em tys (ws.set q0 (a, e')) h' := by
  have hlt := (List.getElem?_eq_some_iff.mp h0).1
  refine ⟨fun b hb => ?_, fun q b e hq => ?_⟩
  · by_cases hba : b = a
    · subst hba
      exact ⟨q0, e', List.getElem?_set_self hlt, hnew⟩
    · obtain ⟨q, e, h1, h2⟩ := hE.1 b (by rw [← htag]; exact hb)
      have hq : q0 ≠ q := fun z => by subst z; rw [h0] at h1; exact hba (congrArg Prod.fst (Option.some.inj h1)).symm
      exact ⟨q, e, by rw [List.getElem?_set_ne hq]; exact h1, heq b hba e h2⟩
  · rw [htag]
    by_cases hz : q0 = q
    · subst hz
      rw [List.getElem?_set_self hlt] at hq
      cases hq
      exact hE.2 _ _ _ h0
    · rw [List.getElem?_set_ne hz] at hq
      exact hE.2 _ _ _ hq
theorem Em.push {tys : List (ClassId × FieldType)} {A : Nat → Prop} {ws : va_W} {h : AH} {q t n : Nat} {e' : va_E} (hE : Em tys ws h) (hD : va_D A (ws ++ [(q, e')])) (ht : t ≠ 0) (hnew : En tys (nO h q t n) q e') : gT h q = 0 ∧ Em tys (ws ++ [(q, e')]) (nO h q t n) := by
  have fresh : ∀ (i : Nat) (e : va_E), ws[i]? ≠ some (q, e) := fun i e hi => by
    have hl := (List.getElem?_eq_some_iff.mp hi).1
    have h1 : (ws ++ [(q, e')])[i]? = some (q, e) := by rw [List.getElem?_append_left hl]; exact hi
    have h2 : (ws ++ [(q, e')])[ws.length]? = some (q, e') := by simp
    have := hD.1 i ws.length _ _ h1 h2 rfl
    omega
  refine ⟨Classical.byContradiction fun hz => ?_, fun b hb => ?_, fun i b e hi => ?_⟩
  · obtain ⟨i, e, h1, -⟩ := hE.1 q hz
    exact fresh i e h1
  · by_cases hbq : b = q
    · subst hbq
      exact ⟨ws.length, e', by simp, hnew⟩
    · obtain ⟨i, e, h1, h2⟩ := hE.1 b (by rw [gT_nO, if_neg hbq] at hb; exact hb)
      have hl := (List.getElem?_eq_some_iff.mp h1).1
      refine ⟨i, e, by rw [List.getElem?_append_left hl]; exact h1, h2.cong ?_ ?_ ?_ ?_ ?_⟩
      · rw [gT_nO, if_neg hbq]
      · rw [gN_nO, if_neg hbq]
      · intro j; rw [gI_nO, if_neg hbq]
      · intro j; rw [gR_nO, if_neg hbq]
      · intro j; rw [gL_nO, if_neg hbq]
  · rw [gT_nO]
    split
    · exact ht
    · rename_i hbq
      by_cases hl : i < ws.length
      · rw [List.getElem?_append_left hl] at hi
        exact hE.2 _ _ _ hi
      · rw [List.getElem?_append_right (by omega)] at hi
        have hz : i - ws.length < 1 := (List.getElem?_eq_some_iff.mp hi).1
        rw [show i - ws.length = 0 by omega] at hi
        cases hi
        exact absurd rfl hbq
/-! words -/
def TB : List Cond := lw_tbl.filter goodWord
theorem inT {w : Cond} (i : Nat) (h : tables_1[i]? = some w) (g : goodWord w = true) : w ∈ TB := List.mem_filter.mpr ⟨List.mem_append_right _ (List.mem_of_getElem? h), g⟩
theorem inS {w : Cond} (i : Nat) (h : (k2_sels lw_privs)[i]? = some w) (g : goodWord w = true) : w ∈ TB := List.mem_filter.mpr ⟨List.mem_append_left _ (List.mem_of_getElem? h), g⟩
theorem TB_good {w : Cond} (h : w ∈ TB) : goodWord w = true := (List.mem_filter.mp h).2
/-- what a class's table row gives -/
def CI (ci : Nat) (C : String) (T : u_T) (N : Nat) (ty : Nat → FieldType) (ks : List Bool) : Prop :=
  vwCl[ci]? = some (C, T, N) ∧ (∀ w ∈ u_ws C T N, w ∈ TB) ∧ (∀ k, k < N → parseFieldDescriptor (T k).2.2.1 = some (ty k)) ∧ (∀ a, a < N → ∀ b, b < N → a ≠ b → (T a).2.1 ≠ (T b).2.1) ∧ clsL[ci]? = some ks ∧ ks.length = N ∧ ci < 10 ∧
  (∀ j, j < N → defaultValue (ty j) = if ks[j]? = some true then .null else .int 0)
/-- a field by its place in a constant pool -/
def FG (own : String) (idx ci k : Nat) : Prop := ∃ C T N ty ks, CI ci C T N ty ks ∧ k < N ∧ Cond.fieldLink own idx (T k).1 (T k).2.1 (T k).2.2.1 ∈ TB
/-- .. that is written: final or not, of a type -/
def FP (own : String) (idx ci k : Nat) (fin : Bool) (t : FieldType) : Prop := ∃ C T N ty ks, CI ci C T N ty ks ∧ k < N ∧ Cond.fieldLink own idx (T k).1 (T k).2.1 (T k).2.2.1 ∈ TB ∧ (T k).2.2.2 = fin ∧ ty k = t ∧ (fin = true → (T k).1 = own)
/-! the world: launch, class numbers, the first new address, the addresses of the two static rows and of the script, its length and ints -/
abbrev W0 : Type := Launch × va_G × Nat × Nat × Nat × Nat × Nat × (Nat → Int32)
abbrev W0.la (w : W0) : Launch := w.1
abbrev W0.dg (w : W0) : va_G := w.2.1
abbrev W0.b0 (w : W0) : Nat := w.2.2.1
abbrev W0.aS (w : W0) : Nat := w.2.2.2.1
abbrev W0.aH (w : W0) : Nat := w.2.2.2.2.1
abbrev W0.aX (w : W0) : Nat := w.2.2.2.2.2.1
abbrev W0.lX (w : W0) : Nat := w.2.2.2.2.2.2.1
abbrev W0.xs (w : W0) : Nat → Int32 := w.2.2.2.2.2.2.2
abbrev wA (w : W0) : Nat → Prop := fun q => w.b0 ≤ q
def sideS : Nat → Int32 := fun k => match k with
  | 0 => -12
  | 1 => -1
  | 2 => 1
  | _ => 12
def sideH : Nat → Int32 := fun k => match k with
  | 0 => 4
  | 1 => 1
  | 2 => 2
  | _ => 8
def NWl : List Cond := [(Jvm.Cond.castable "java/lang/IllegalArgumentException" "java/lang/IllegalArgumentException"), (Jvm.Cond.declares ({ cls := "java/lang/RuntimeException", name := "<init>", desc := "()V" } : Jvm.MethodName)), (Jvm.Cond.declares ({ cls := "java/lang/RuntimeException", name := "<init>", desc := "(Ljava/lang/String;)V" } : Jvm.MethodName)), (Jvm.Cond.declares ({ cls := "java/lang/Exception", name := "<init>", desc := "()V" } : Jvm.MethodName)), (Jvm.Cond.declares ({ cls := "java/lang/Exception", name := "<init>", desc := "(Ljava/lang/String;)V" } : Jvm.MethodName)), (Jvm.Cond.declares ({ cls := "java/lang/Throwable", name := "<init>", desc := "()V" } : Jvm.MethodName)), (Jvm.Cond.declares ({ cls := "java/lang/Throwable", name := "<init>", desc := "(Ljava/lang/String;)V" } : Jvm.MethodName)), (Jvm.Cond.castable "java/lang/IndexOutOfBoundsException" "java/lang/IndexOutOfBoundsException"), (Jvm.Cond.castable "java/lang/IllegalStateException" "java/lang/IllegalStateException"), (Jvm.Cond.methodLinkNest "Stowfinish$Hull" (24 : Nat) ({ cls := "Stowfinish", name := "cellOf", desc := "(II)I" } : Jvm.MethodName) "Stowfinish"), (Jvm.Cond.fieldLinkNest "Stowfinish$Ways" (50 : Nat) "Stowfinish" "SIDE_HOLES" "[I" "Stowfinish"), (Jvm.Cond.fieldLinkNest "Stowfinish$Ways" (58 : Nat) "Stowfinish" "SIDE_STEPS" "[I" "Stowfinish")]
def STl : List (String × Nat × String) := [("Stowfinish", 89, "frames or tons out of range"), ("Stowfinish", 100, "no such frame"), ("Stowfinish", 103, "tons out of range"), ("Stowfinish", 109, "no such welder"), ("Stowfinish", 111, "flaws out of range"), ("Stowfinish", 116, "no such frame or level"), ("Stowfinish", 118, "last, tons, more or lugs out of range"), ("Stowfinish", 126, "afloat, or no more blocks"), ("Stowfinish", 143, "no such block or welder"), ("Stowfinish", 152, "cannot be joined"), ("Stowfinish", 191, "cannot be put on the berth"), ("Stowfinish", 224, "no such block"), ("Stowfinish", 226, "not loose"), ("Stowfinish", 236, "no such weld"), ("Stowfinish", 244, "not untested, or scrapped"), ("Stowfinish", 249, "no such weld or welder"), ("Stowfinish", 254, "cannot be repaired"), ("Stowfinish", 268, "no such room"), ("Stowfinish", 275, "there is one, or afloat"), ("Stowfinish", 283, "painted already"), ("Stowfinish", 291, "not painted, or too much in it"), ("Stowfinish", 300, "both are the same"), ("Stowfinish", 302, "no more pipes"), ("Stowfinish", 308, "no way"), ("Stowfinish", 316, "hour out of range"), ("Stowfinish", 328, "cannot be launched"), ("Stowfinish", 330, "what out of range"), ("Stowfinish", 336, "no such cell"), ("Stowfinish", 339, "no such pipe or place")]
def NCl : List (String × String) := [("java/lang/IndexOutOfBoundsException", "java/lang/IllegalArgumentException"), ("java/lang/IndexOutOfBoundsException", "java/lang/IllegalStateException"), ("java/lang/IllegalArgumentException", "java/lang/IndexOutOfBoundsException"), ("java/lang/IllegalArgumentException", "java/lang/IllegalStateException"), ("java/lang/IllegalStateException", "java/lang/IndexOutOfBoundsException"), ("java/lang/IllegalStateException", "java/lang/IllegalArgumentException")]
def AOl : List String := ["Stowfinish$Block", "Stowfinish$Weld", "Stowfinish$Pipe", "Stowfinish$Room"]
/-- what never changes -/
def SB (w : W0) (s : State) (H : Heap) : Prop :=
  w.la.stackTraces = false ∧ w.b0 ≤ H.size ∧ vx_Zq Bundle.tN "UNASSIGNED_STACK" Bundle.steD (wA w) s H ∧ vx_Zq Bundle.tN "SUPPRESSED_SENTINEL" Bundle.listD (wA w) s H ∧
  va_Z "Stowfinish" "SIDE_STEPS" "[I" (.ref w.aS) (wA w) s H ∧ va_Z "Stowfinish" "SIDE_HOLES" "[I" (.ref w.aH) (wA w) s H ∧
  (va_X w.aS 4 sideS s H ∧ w.aS < w.b0) ∧ (va_X w.aH 4 sideH s H ∧ w.aH < w.b0) ∧ (va_X w.aX w.lX w.xs s H ∧ w.aX < w.b0) ∧
  (∀ c ∈ NWl, va_Nw c s) ∧ (∀ c ∈ STl, ∃ a, vk_R c.1 c.2.1 c.2.2 a s) ∧ (∀ c ∈ NCl, va_Nc c.1 c.2 s) ∧ (∀ c ∈ AOl, va_AO c s)
def nwk : Cond → Bool
  | .castable _ _ => true
  | .declares _ => true
  | .methodLinkNest _ _ _ _ => true
  | .fieldLinkNest _ _ _ _ _ _ => true
  | _ => false
theorem NWl_ok : ∀ c ∈ NWl, nwk c = true := by decide +kernel
theorem nwk_warm {c : Cond} {s U : State} (hk : nwk c = true) (hW : s.WarmedH U.vm) (h : va_Nw c s) : va_Nw c U := by
  cases c <;> first | exact va_Nw.warmC hW h | exact va_Nw.warmD hW h | exact va_Nw.warmM hW h | exact va_Nw.warmF hW h | exact absurd hk Bool.false_ne_true
theorem SB.to {w : W0} {s U : State} {H H1 : Heap} (h : SB w s H) (hW : s.WarmedH U.vm) (hz : H.size ≤ H1.size) (hq : ∀ a : Nat, a < H.size → ¬ wA w a → H1[a]? = H[a]?) : SB w U H1 := by
  obtain ⟨h1, h2, h3, h4, h5, h6, ⟨h7, h7b⟩, ⟨h8, h8b⟩, ⟨h9, h9b⟩, h10, h11, h12, h13⟩ := h
  have hv := hW.alike
  have hx : ∀ {b : Nat}, b < w.b0 → H1[b]? = H[b]? := fun {b} hb => hq b (Nat.lt_of_lt_of_le hb h2) (Nat.not_le.mpr hb)
  exact ⟨h1, Nat.le_trans h2 hz, vx_Zq.moved hv (h3.kept hq), vx_Zq.moved hv (h4.kept hq), va_Z.moved hv (h5.kept hq), va_Z.moved hv (h6.kept hq),
    ⟨va_X.moved hv (h7.kept (hx h7b)), h7b⟩, ⟨va_X.moved hv (h8.kept (hx h8b)), h8b⟩, ⟨va_X.moved hv (h9.kept (hx h9b)), h9b⟩,
    fun c hc => nwk_warm (NWl_ok c hc) hW (h10 c hc), fun c hc => by obtain ⟨a, ha⟩ := h11 c hc; exact ⟨a, vk_R.warm hW ha⟩, fun c hc => va_Nc.moved hv (h12 c hc), fun c hc => va_AO.moved hv (h13 c hc)⟩
def RepX (w : W0) (h : AH) (U : State) : Prop := ∃ tys ws, va_K w.dg vwCl tys U ∧ va_P w.dg vwCl ws U.heap ∧ va_D (wA w) ws ∧ Em tys ws h
def PcX (w : W0) (as : List Value) (h : AH) : Array Value → State → Prop := va_Pc as (fun U => RepX w h U ∧ SB w U U.heap)
def QcX (w : W0) (Q : Option Value → AH → Prop) : Array Value → State → Outcome → State → Prop := fun _ st o t => ∃ v h', o = .returned v ∧ Q v h' ∧ RepX w h' t ∧ va_F (wA w) st t
def XcX (w : W0) (QX : String → AH → Prop) : String → State → State → Prop := fun E st t => ∃ h', QX E h' ∧ RepX w h' t ∧ va_F (wA w) st t
/-- of a method: its class, bytes, locals, return type, room, whether a constructor, its handlers -/
abbrev MI : Type := String × ByteArray × Nat × Option FieldType × Room × Bool × List (Nat × Nat × Nat × Nat)
abbrev MI.ow (M : MI) : String := M.1
abbrev MI.cd (M : MI) : ByteArray := M.2.1
abbrev MI.ml (M : MI) : Nat := M.2.2.1
abbrev MI.rt (M : MI) : Option FieldType := M.2.2.2.1
abbrev MI.rm (M : MI) : Room := M.2.2.2.2.1
abbrev MI.ii (M : MI) : Bool := M.2.2.2.2.2.1
abbrev MI.hh (M : MI) : List (Nat × Nat × Nat × Nat) := M.2.2.2.2.2.2
def Cx (M : MI) (p : Program) (s : State) (m : MethodId) (args : Array Value) (meth : Method) (c : Code) : Prop :=
  p.tables.exec = Jvm.exec ∧ c.code = M.cd ∧ c.maxLocals = M.ml ∧ meth.sig.returnType = M.rt ∧ meth.locks = false ∧ s.vm.findClass M.ow = some m.cls ∧ (∀ t ∈ TB, t.before args s = true) ∧ (M.ii = true → meth.name = "<init>") ∧ c.exceptionTable.toList = tableOf M.hh
def LH (ls : Array Slot) (n : Nat) (Lc : List (Option Value)) : Prop := ls.size = n ∧ lv_wf ls ∧ Lc.length = n ∧ ∀ (i : Nat) (v : Value), Lc[i]? = some (some v) → v.category = 1 ∧ ls[i]? = some (.val v)
def X (w : W0) (M : MI) (Q : Option Value → AH → Prop) (QX : String → AH → Prop) (kc ns pc : Nat) (L : List (Option Value)) (st : List Value) (h : AH) : Prop :=
  ∀ (p : Program) (e : Env) (s : State) (m : MethodId) (args : Array Value) (below : List Frame) (meth : Method) (c : Code) (H : Heap) (locs : List Loc) (tys : List (ClassId × FieldType)) (ws : va_W) (ls : Array Slot),
    Cx M p s m args meth c → va_K w.dg vwCl tys s → va_P w.dg vwCl ws H → va_D (wA w) ws → Em tys ws h → va_S (wA w) s.heap H locs → SB w s s.heap → LH ls M.ml L →
    W p w.la e M.rm s m args below meth c H locs kc ns (vx_MQ below (QcX w Q) (XcX w QX) args s M.rm.cells M.rm.slots (wA w)) (F0 m pc ls st)
/-! locals -/
def LHp (Lc : List (Option Value)) : List (Nat × Value) := (List.range Lc.length).filterMap fun i => match Lc[i]? with
  | some (some v) => some (i, v)
  | _ => none
theorem LHp_mem {Lc : List (Option Value)} {i : Nat} {v : Value} : (i, v) ∈ LHp Lc ↔ Lc[i]? = some (some v) := by
  unfold LHp
  rw [List.mem_filterMap]
  constructor
  · rintro ⟨j, -, hj⟩
    split at hj
    · rename_i v' hv'
      cases hj
      exact hv'
    · cases hj
  · intro hi
    have hl := (List.getElem?_eq_some_iff.mp hi).1
    exact ⟨i, List.mem_range.mpr hl, by rw [hi]⟩
theorem LH.has {ls : Array Slot} {n : Nat} {Lc : List (Option Value)} (h : LH ls n Lc) : lv_has ls n (LHp Lc) := ⟨h.1, h.2.1, fun q hq => (h.2.2.2 q.1 q.2 (LHp_mem.mp hq)).2⟩
theorem LH.at {ls : Array Slot} {n : Nat} {Lc : List (Option Value)} (h : LH ls n Lc) {i : Nat} {v : Value} (hi : Lc[i]? = some (some v)) : ls[i]? = some (.val v) := (h.2.2.2 i v hi).2
theorem LH.put {ls ls' : Array Slot} {n i : Nat} {v : Value} {Lc : List (Option Value)} (h : LH ls n Lc) (hv : v.category = 1) (h' : lv_has ls' n ((i, v) :: (LHp Lc).filter (fun q => !(q.1 == i) && !(q.1 + 1 == i && q.2.category == 2)))) : LH ls' n (Lc.set i (some v)) := by
  refine ⟨h'.1, h'.2.1, by rw [List.length_set]; exact h.2.2.1, fun j x hj => ?_⟩
  by_cases hij : i = j
  · subst hij
    have hl : i < Lc.length := by
      have := (List.getElem?_eq_some_iff.mp hj).1
      rwa [List.length_set] at this
    rw [List.getElem?_set_self hl] at hj
    cases hj
    exact ⟨hv, h'.2.2 (i, v) List.mem_cons_self⟩
  · rw [List.getElem?_set_ne hij] at hj
    obtain ⟨hc, -⟩ := h.2.2.2 j x hj
    refine ⟨hc, h'.2.2 (j, x) (List.mem_cons_of_mem _ (List.mem_filter.mpr ⟨LHp_mem.mpr hj, ?_⟩))⟩
    simp [hc, Ne.symm hij]
theorem LHp_idx {Lc : List (Option Value)} {i : Nat} {v : Value} (hi : Lc[i]? = some (some v)) : ∃ k : Nat, (LHp Lc)[k]? = some (i, v) := by
  obtain ⟨k, hk⟩ := List.getElem?_of_mem (LHp_mem.mpr hi)
  exact ⟨k, hk⟩
section XR
variable {w : W0} {M : MI} {Q : Option Value → AH → Prop} {QX : String → AH → Prop} {kc ns pc : Nat} {L : List (Option Value)} {st : List Value} {h : AH}
theorem x_iconst {n : Int} (hd : decode M.cd pc = .ok (.iconst n, 1)) (k : X w M Q QX kc ns (pc + 1) L (.int (Int32.ofInt n) :: st) h) : X w M Q QX kc ns pc L st h := by
  intro p e s m args below meth c H locs tys ws ls C hK hP hD hE hS hB hl
  have C0 := C
  obtain ⟨hx, hb, hml, hr, hlk, hown, hts, hin, htab⟩ := C
  exact lv_iconst hx hb hd rfl (k p e s m args below meth c H locs tys ws ls C0 hK hP hD hE hS hB hl)
theorem x_bipush {n : Int} (hd : decode M.cd pc = .ok (.bipush n, 2)) (k : X w M Q QX kc ns (pc + 2) L (.int (Int8.ofInt n).toInt32 :: st) h) : X w M Q QX kc ns pc L st h := by
  intro p e s m args below meth c H locs tys ws ls C hK hP hD hE hS hB hl
  have C0 := C
  obtain ⟨hx, hb, hml, hr, hlk, hown, hts, hin, htab⟩ := C
  exact lv_bipush hx hb hd rfl (k p e s m args below meth c H locs tys ws ls C0 hK hP hD hE hS hB hl)
theorem x_sipush {n : Int} (hd : decode M.cd pc = .ok (.sipush n, 3)) (k : X w M Q QX kc ns (pc + 3) L (.int (Int16.ofInt n).toInt32 :: st) h) : X w M Q QX kc ns pc L st h := by
  intro p e s m args below meth c H locs tys ws ls C hK hP hD hE hS hB hl
  have C0 := C
  obtain ⟨hx, hb, hml, hr, hlk, hown, hts, hin, htab⟩ := C
  exact lv_sipush hx hb hd rfl (k p e s m args below meth c H locs tys ws ls C0 hK hP hD hE hS hB hl)
theorem x_null  (hd : decode M.cd pc = .ok (.aconst_null, 1)) (k : X w M Q QX kc ns (pc + 1) L (.null :: st) h) : X w M Q QX kc ns pc L st h := by
  intro p e s m args below meth c H locs tys ws ls C hK hP hD hE hS hB hl
  have C0 := C
  obtain ⟨hx, hb, hml, hr, hlk, hown, hts, hin, htab⟩ := C
  exact lv_null hx hb hd (k p e s m args below meth c H locs tys ws ls C0 hK hP hD hE hS hB hl)
theorem x_iload_n {i : Fin 4} {x : Int32} (hd : decode M.cd pc = .ok (.iload_n i, 1)) (hg : L[(i : Nat)]? = some (some (.int x))) (k : X w M Q QX kc ns (pc + 1) L (.int x :: st) h) : X w M Q QX kc ns pc L st h := by
  intro p e s m args below meth c H locs tys ws ls C hK hP hD hE hS hB hl
  have C0 := C
  obtain ⟨hx, hb, hml, hr, hlk, hown, hts, hin, htab⟩ := C
  exact lv_iload_n hx hb hd rfl (hl.at hg) (k p e s m args below meth c H locs tys ws ls C0 hK hP hD hE hS hB hl)
theorem x_iload {i : Nat} {x : Int32} (hd : decode M.cd pc = .ok (.iload i, 2)) (hg : L[i]? = some (some (.int x))) (k : X w M Q QX kc ns (pc + 2) L (.int x :: st) h) : X w M Q QX kc ns pc L st h := by
  intro p e s m args below meth c H locs tys ws ls C hK hP hD hE hS hB hl
  have C0 := C
  obtain ⟨hx, hb, hml, hr, hlk, hown, hts, hin, htab⟩ := C
  exact lv_iload hx hb hd (hl.at hg) (k p e s m args below meth c H locs tys ws ls C0 hK hP hD hE hS hB hl)
theorem x_aload_n {i : Fin 4} {x : Nat} (hd : decode M.cd pc = .ok (.aload_n i, 1)) (hg : L[(i : Nat)]? = some (some (.ref x))) (k : X w M Q QX kc ns (pc + 1) L (.ref x :: st) h) : X w M Q QX kc ns pc L st h := by
  intro p e s m args below meth c H locs tys ws ls C hK hP hD hE hS hB hl
  have C0 := C
  obtain ⟨hx, hb, hml, hr, hlk, hown, hts, hin, htab⟩ := C
  exact lv_aload_n hx hb hd rfl (hl.at hg) (k p e s m args below meth c H locs tys ws ls C0 hK hP hD hE hS hB hl)
theorem x_aload {i : Nat} {x : Nat} (hd : decode M.cd pc = .ok (.aload i, 2)) (hg : L[i]? = some (some (.ref x))) (k : X w M Q QX kc ns (pc + 2) L (.ref x :: st) h) : X w M Q QX kc ns pc L st h := by
  intro p e s m args below meth c H locs tys ws ls C hK hP hD hE hS hB hl
  have C0 := C
  obtain ⟨hx, hb, hml, hr, hlk, hown, hts, hin, htab⟩ := C
  exact lv_aload hx hb hd (hl.at hg) (k p e s m args below meth c H locs tys ws ls C0 hK hP hD hE hS hB hl)
theorem x_aloadN_n {i : Fin 4} (hd : decode M.cd pc = .ok (.aload_n i, 1)) (hg : L[(i : Nat)]? = some (some .null)) (k : X w M Q QX kc ns (pc + 1) L (.null :: st) h) : X w M Q QX kc ns pc L st h := by
  intro p e s m args below meth c H locs tys ws ls C hK hP hD hE hS hB hl
  have C0 := C
  obtain ⟨hx, hb, hml, hr, hlk, hown, hts, hin, htab⟩ := C
  exact lv_aload_nN hx hb hd rfl (hl.at hg) (k p e s m args below meth c H locs tys ws ls C0 hK hP hD hE hS hB hl)
theorem x_aloadN {i : Nat} (hd : decode M.cd pc = .ok (.aload i, 2)) (hg : L[i]? = some (some .null)) (k : X w M Q QX kc ns (pc + 2) L (.null :: st) h) : X w M Q QX kc ns pc L st h := by
  intro p e s m args below meth c H locs tys ws ls C hK hP hD hE hS hB hl
  have C0 := C
  obtain ⟨hx, hb, hml, hr, hlk, hown, hts, hin, htab⟩ := C
  exact lv_aloadN hx hb hd (hl.at hg) (k p e s m args below meth c H locs tys ws ls C0 hK hP hD hE hS hB hl)
theorem x_iadd {x y : Int32} (hd : decode M.cd pc = .ok (.iadd, 1)) (k : X w M Q QX kc ns (pc + 1) L (.int (x + y) :: st) h) : X w M Q QX kc ns pc L (.int y :: .int x :: st) h := by
  intro p e s m args below meth c H locs tys ws ls C hK hP hD hE hS hB hl
  have C0 := C
  obtain ⟨hx, hb, hml, hr, hlk, hown, hts, hin, htab⟩ := C
  exact lv_iadd hx hb hd (k p e s m args below meth c H locs tys ws ls C0 hK hP hD hE hS hB hl)
theorem x_isub {x y : Int32} (hd : decode M.cd pc = .ok (.isub, 1)) (k : X w M Q QX kc ns (pc + 1) L (.int (x - y) :: st) h) : X w M Q QX kc ns pc L (.int y :: .int x :: st) h := by
  intro p e s m args below meth c H locs tys ws ls C hK hP hD hE hS hB hl
  have C0 := C
  obtain ⟨hx, hb, hml, hr, hlk, hown, hts, hin, htab⟩ := C
  exact lv_isub hx hb hd (k p e s m args below meth c H locs tys ws ls C0 hK hP hD hE hS hB hl)
theorem x_imul {x y : Int32} (hd : decode M.cd pc = .ok (.imul, 1)) (k : X w M Q QX kc ns (pc + 1) L (.int (x * y) :: st) h) : X w M Q QX kc ns pc L (.int y :: .int x :: st) h := by
  intro p e s m args below meth c H locs tys ws ls C hK hP hD hE hS hB hl
  have C0 := C
  obtain ⟨hx, hb, hml, hr, hlk, hown, hts, hin, htab⟩ := C
  exact lv_imul hx hb hd (k p e s m args below meth c H locs tys ws ls C0 hK hP hD hE hS hB hl)
theorem x_iand {x y : Int32} (hd : decode M.cd pc = .ok (.iand, 1)) (k : X w M Q QX kc ns (pc + 1) L (.int (x &&& y) :: st) h) : X w M Q QX kc ns pc L (.int y :: .int x :: st) h := by
  intro p e s m args below meth c H locs tys ws ls C hK hP hD hE hS hB hl
  have C0 := C
  obtain ⟨hx, hb, hml, hr, hlk, hown, hts, hin, htab⟩ := C
  exact lv_iand hx hb hd (k p e s m args below meth c H locs tys ws ls C0 hK hP hD hE hS hB hl)
theorem x_ior {x y : Int32} (hd : decode M.cd pc = .ok (.ior, 1)) (k : X w M Q QX kc ns (pc + 1) L (.int (x ||| y) :: st) h) : X w M Q QX kc ns pc L (.int y :: .int x :: st) h := by
  intro p e s m args below meth c H locs tys ws ls C hK hP hD hE hS hB hl
  have C0 := C
  obtain ⟨hx, hb, hml, hr, hlk, hown, hts, hin, htab⟩ := C
  exact lv_ior hx hb hd (k p e s m args below meth c H locs tys ws ls C0 hK hP hD hE hS hB hl)
theorem x_idiv {x y : Int32} (hd : decode M.cd pc = .ok (.idiv, 1)) (hne : ¬ y = 0) (k : X w M Q QX kc ns (pc + 1) L (.int (x / y) :: st) h) : X w M Q QX kc ns pc L (.int y :: .int x :: st) h := by
  intro p e s m args below meth c H locs tys ws ls C hK hP hD hE hS hB hl
  have C0 := C
  obtain ⟨hx, hb, hml, hr, hlk, hown, hts, hin, htab⟩ := C
  exact lv_idiv hx hb hd hne (k p e s m args below meth c H locs tys ws ls C0 hK hP hD hE hS hB hl)
theorem x_irem {x y : Int32} (hd : decode M.cd pc = .ok (.irem, 1)) (hne : ¬ y = 0) (k : X w M Q QX kc ns (pc + 1) L (.int (x - x / y * y) :: st) h) : X w M Q QX kc ns pc L (.int y :: .int x :: st) h := by
  intro p e s m args below meth c H locs tys ws ls C hK hP hD hE hS hB hl
  have C0 := C
  obtain ⟨hx, hb, hml, hr, hlk, hown, hts, hin, htab⟩ := C
  exact lv_irem hx hb hd hne (k p e s m args below meth c H locs tys ws ls C0 hK hP hD hE hS hB hl)
theorem x_ineg {x : Int32} (hd : decode M.cd pc = .ok (.ineg, 1)) (k : X w M Q QX kc ns (pc + 1) L (.int (-x) :: st) h) : X w M Q QX kc ns pc L (.int x :: st) h := by
  intro p e s m args below meth c H locs tys ws ls C hK hP hD hE hS hB hl
  have C0 := C
  obtain ⟨hx, hb, hml, hr, hlk, hown, hts, hin, htab⟩ := C
  exact lv_ineg hx hb hd (k p e s m args below meth c H locs tys ws ls C0 hK hP hD hE hS hB hl)
theorem x_iushr {x y : Int32} (hd : decode M.cd pc = .ok (.iushr, 1)) (k : X w M Q QX kc ns (pc + 1) L (.int (x.toUInt32 >>> (y.toUInt32 &&& Int32.toUInt32 31)).toInt32 :: st) h) : X w M Q QX kc ns pc L (.int y :: .int x :: st) h := by
  intro p e s m args below meth c H locs tys ws ls C hK hP hD hE hS hB hl
  have C0 := C
  obtain ⟨hx, hb, hml, hr, hlk, hown, hts, hin, htab⟩ := C
  exact lv_iushr hx hb hd rfl (k p e s m args below meth c H locs tys ws ls C0 hK hP hD hE hS hB hl)
theorem x_i2l {x : Int32} (hd : decode M.cd pc = .ok (.i2l, 1)) (k : X w M Q QX kc ns (pc + 1) L (.long x.toInt64 :: st) h) : X w M Q QX kc ns pc L (.int x :: st) h := by
  intro p e s m args below meth c H locs tys ws ls C hK hP hD hE hS hB hl
  have C0 := C
  obtain ⟨hx, hb, hml, hr, hlk, hown, hts, hin, htab⟩ := C
  exact lv_i2l hx hb hd rfl (k p e s m args below meth c H locs tys ws ls C0 hK hP hD hE hS hB hl)
theorem x_dup {va : Value} (hd : decode M.cd pc = .ok (.dup, 1)) (hva : va.category = 1) (k : X w M Q QX kc ns (pc + 1) L (va :: va :: st) h) : X w M Q QX kc ns pc L (va :: st) h := by
  intro p e s m args below meth c H locs tys ws ls C hK hP hD hE hS hB hl
  have C0 := C
  obtain ⟨hx, hb, hml, hr, hlk, hown, hts, hin, htab⟩ := C
  exact lv_dup hx hb hd hva (k p e s m args below meth c H locs tys ws ls C0 hK hP hD hE hS hB hl)
theorem x_dup2 {va vb : Value} (hd : decode M.cd pc = .ok (.dup2, 1)) (hva : va.category = 1) (hvb : vb.category = 1) (k : X w M Q QX kc ns (pc + 1) L (va :: vb :: va :: vb :: st) h) : X w M Q QX kc ns pc L (va :: vb :: st) h := by
  intro p e s m args below meth c H locs tys ws ls C hK hP hD hE hS hB hl
  have C0 := C
  obtain ⟨hx, hb, hml, hr, hlk, hown, hts, hin, htab⟩ := C
  exact lv_dup2_11 hx hb hd hva hvb (k p e s m args below meth c H locs tys ws ls C0 hK hP hD hE hS hB hl)
theorem x_pop {va : Value} (hd : decode M.cd pc = .ok (.pop, 1)) (hva : va.category = 1) (k : X w M Q QX kc ns (pc + 1) L st h) : X w M Q QX kc ns pc L (va :: st) h := by
  intro p e s m args below meth c H locs tys ws ls C hK hP hD hE hS hB hl
  have C0 := C
  obtain ⟨hx, hb, hml, hr, hlk, hown, hts, hin, htab⟩ := C
  exact lv_pop hx hb hd hva (k p e s m args below meth c H locs tys ws ls C0 hK hP hD hE hS hB hl)
theorem x_istore_n {i : Fin 4} {x : Int32} (hd : decode M.cd pc = .ok (.istore_n i, 1)) (hi : (i : Nat) < M.ml) (k : X w M Q QX kc ns (pc + 1) (L.set i (some (.int x))) st h) : X w M Q QX kc ns pc L (.int x :: st) h := by
  intro p e s m args below meth c H locs tys ws ls C hK hP hD hE hS hB hl
  have C0 := C
  obtain ⟨hx, hb, hml, hr, hlk, hown, hts, hin, htab⟩ := C
  exact lv_istore_n hx hb hd rfl hl.has hi rfl (fun ls' hl' => k p e s m args below meth c H locs tys ws ls' C0 hK hP hD hE hS hB (hl.put rfl hl'))
theorem x_istore {i : Nat} {x : Int32} (hd : decode M.cd pc = .ok (.istore i, 2)) (hi : i < M.ml) (k : X w M Q QX kc ns (pc + 2) (L.set i (some (.int x))) st h) : X w M Q QX kc ns pc L (.int x :: st) h := by
  intro p e s m args below meth c H locs tys ws ls C hK hP hD hE hS hB hl
  have C0 := C
  obtain ⟨hx, hb, hml, hr, hlk, hown, hts, hin, htab⟩ := C
  exact lv_istore hx hb hd hl.has hi rfl (fun ls' hl' => k p e s m args below meth c H locs tys ws ls' C0 hK hP hD hE hS hB (hl.put rfl hl'))
theorem x_astore_n {i : Fin 4} {x : Nat} (hd : decode M.cd pc = .ok (.astore_n i, 1)) (hi : (i : Nat) < M.ml) (k : X w M Q QX kc ns (pc + 1) (L.set i (some (.ref x))) st h) : X w M Q QX kc ns pc L (.ref x :: st) h := by
  intro p e s m args below meth c H locs tys ws ls C hK hP hD hE hS hB hl
  have C0 := C
  obtain ⟨hx, hb, hml, hr, hlk, hown, hts, hin, htab⟩ := C
  exact lv_astore_n hx hb hd rfl hl.has hi rfl (fun ls' hl' => k p e s m args below meth c H locs tys ws ls' C0 hK hP hD hE hS hB (hl.put rfl hl'))
theorem x_astore {i : Nat} {x : Nat} (hd : decode M.cd pc = .ok (.astore i, 2)) (hi : i < M.ml) (k : X w M Q QX kc ns (pc + 2) (L.set i (some (.ref x))) st h) : X w M Q QX kc ns pc L (.ref x :: st) h := by
  intro p e s m args below meth c H locs tys ws ls C hK hP hD hE hS hB hl
  have C0 := C
  obtain ⟨hx, hb, hml, hr, hlk, hown, hts, hin, htab⟩ := C
  exact lv_astore hx hb hd hl.has hi rfl (fun ls' hl' => k p e s m args below meth c H locs tys ws ls' C0 hK hP hD hE hS hB (hl.put rfl hl'))
theorem x_astoreN_n {i : Fin 4}  (hd : decode M.cd pc = .ok (.astore_n i, 1)) (hi : (i : Nat) < M.ml) (k : X w M Q QX kc ns (pc + 1) (L.set i (some (.null))) st h) : X w M Q QX kc ns pc L (.null :: st) h := by
  intro p e s m args below meth c H locs tys ws ls C hK hP hD hE hS hB hl
  have C0 := C
  obtain ⟨hx, hb, hml, hr, hlk, hown, hts, hin, htab⟩ := C
  exact lv_astore_nN hx hb hd rfl hl.has hi rfl (fun ls' hl' => k p e s m args below meth c H locs tys ws ls' C0 hK hP hD hE hS hB (hl.put rfl hl'))
theorem x_astoreN {i : Nat}  (hd : decode M.cd pc = .ok (.astore i, 2)) (hi : i < M.ml) (k : X w M Q QX kc ns (pc + 2) (L.set i (some (.null))) st h) : X w M Q QX kc ns pc L (.null :: st) h := by
  intro p e s m args below meth c H locs tys ws ls C hK hP hD hE hS hB hl
  have C0 := C
  obtain ⟨hx, hb, hml, hr, hlk, hown, hts, hin, htab⟩ := C
  exact lv_astoreN hx hb hd hl.has hi rfl (fun ls' hl' => k p e s m args below meth c H locs tys ws ls' C0 hK hP hD hE hS hB (hl.put rfl hl'))
theorem x_iinc {i : Nat} {n : Int} {x : Int32} (hd : decode M.cd pc = .ok (.iinc i n, 3)) (hg : L[i]? = some (some (.int x))) (k : X w M Q QX kc ns (pc + 3) (L.set i (some (.int (x + Int32.ofInt n)))) st h) : X w M Q QX kc ns pc L st h := by
  intro p e s m args below meth c H locs tys ws ls C hK hP hD hE hS hB hl
  have C0 := C
  obtain ⟨hx, hb, hml, hr, hlk, hown, hts, hin, htab⟩ := C
  obtain ⟨q, hq⟩ := LHp_idx hg
  have hi : i < M.ml := by rw [← hl.2.2.1]; exact (List.getElem?_eq_some_iff.mp hg).1
  exact lv_iinc hx hb hd hl.has hq rfl hi rfl (fun ls' hl' => k p e s m args below meth c H locs tys ws ls' C0 hK hP hD hE hS hB (hl.put rfl hl'))
theorem x_icmp_eq {x y : Int32} {off : Int} {tgt : Nat} (hd : decode M.cd pc = .ok (.if_icmp .eq off, 3)) (ht : (pc : Int) + off = (tgt : Int)) (kt : x = y → X w M Q QX kc ns tgt L st h) (kf : ¬ x = y → X w M Q QX kc ns (pc + 3) L st h) : X w M Q QX kc ns pc L (.int y :: .int x :: st) h := by
  intro p e s m args below meth c H locs tys ws ls C hK hP hD hE hS hB hl
  have C0 := C
  obtain ⟨hx, hb, hml, hr, hlk, hown, hts, hin, htab⟩ := C
  exact lv_icmp_eq hx hb hd ht (fun z => kt z p e s m args below meth c H locs tys ws ls C0 hK hP hD hE hS hB hl) (fun z => kf z p e s m args below meth c H locs tys ws ls C0 hK hP hD hE hS hB hl)
theorem x_icmp_ne {x y : Int32} {off : Int} {tgt : Nat} (hd : decode M.cd pc = .ok (.if_icmp .ne off, 3)) (ht : (pc : Int) + off = (tgt : Int)) (kt : ¬ x = y → X w M Q QX kc ns tgt L st h) (kf : x = y → X w M Q QX kc ns (pc + 3) L st h) : X w M Q QX kc ns pc L (.int y :: .int x :: st) h := by
  intro p e s m args below meth c H locs tys ws ls C hK hP hD hE hS hB hl
  have C0 := C
  obtain ⟨hx, hb, hml, hr, hlk, hown, hts, hin, htab⟩ := C
  exact lv_icmp_ne hx hb hd ht (fun z => kt z p e s m args below meth c H locs tys ws ls C0 hK hP hD hE hS hB hl) (fun z => kf z p e s m args below meth c H locs tys ws ls C0 hK hP hD hE hS hB hl)
theorem x_icmp_lt {x y : Int32} {off : Int} {tgt : Nat} (hd : decode M.cd pc = .ok (.if_icmp .lt off, 3)) (ht : (pc : Int) + off = (tgt : Int)) (kt : x < y → X w M Q QX kc ns tgt L st h) (kf : ¬ x < y → X w M Q QX kc ns (pc + 3) L st h) : X w M Q QX kc ns pc L (.int y :: .int x :: st) h := by
  intro p e s m args below meth c H locs tys ws ls C hK hP hD hE hS hB hl
  have C0 := C
  obtain ⟨hx, hb, hml, hr, hlk, hown, hts, hin, htab⟩ := C
  exact lv_icmp_lt hx hb hd ht (fun z => kt z p e s m args below meth c H locs tys ws ls C0 hK hP hD hE hS hB hl) (fun z => kf z p e s m args below meth c H locs tys ws ls C0 hK hP hD hE hS hB hl)
theorem x_icmp_ge {x y : Int32} {off : Int} {tgt : Nat} (hd : decode M.cd pc = .ok (.if_icmp .ge off, 3)) (ht : (pc : Int) + off = (tgt : Int)) (kt : y ≤ x → X w M Q QX kc ns tgt L st h) (kf : ¬ y ≤ x → X w M Q QX kc ns (pc + 3) L st h) : X w M Q QX kc ns pc L (.int y :: .int x :: st) h := by
  intro p e s m args below meth c H locs tys ws ls C hK hP hD hE hS hB hl
  have C0 := C
  obtain ⟨hx, hb, hml, hr, hlk, hown, hts, hin, htab⟩ := C
  exact lv_icmp_ge hx hb hd ht (fun z => kt z p e s m args below meth c H locs tys ws ls C0 hK hP hD hE hS hB hl) (fun z => kf z p e s m args below meth c H locs tys ws ls C0 hK hP hD hE hS hB hl)
theorem x_icmp_gt {x y : Int32} {off : Int} {tgt : Nat} (hd : decode M.cd pc = .ok (.if_icmp .gt off, 3)) (ht : (pc : Int) + off = (tgt : Int)) (kt : y < x → X w M Q QX kc ns tgt L st h) (kf : ¬ y < x → X w M Q QX kc ns (pc + 3) L st h) : X w M Q QX kc ns pc L (.int y :: .int x :: st) h := by
  intro p e s m args below meth c H locs tys ws ls C hK hP hD hE hS hB hl
  have C0 := C
  obtain ⟨hx, hb, hml, hr, hlk, hown, hts, hin, htab⟩ := C
  exact lv_icmp_gt hx hb hd ht (fun z => kt z p e s m args below meth c H locs tys ws ls C0 hK hP hD hE hS hB hl) (fun z => kf z p e s m args below meth c H locs tys ws ls C0 hK hP hD hE hS hB hl)
theorem x_icmp_le {x y : Int32} {off : Int} {tgt : Nat} (hd : decode M.cd pc = .ok (.if_icmp .le off, 3)) (ht : (pc : Int) + off = (tgt : Int)) (kt : x ≤ y → X w M Q QX kc ns tgt L st h) (kf : ¬ x ≤ y → X w M Q QX kc ns (pc + 3) L st h) : X w M Q QX kc ns pc L (.int y :: .int x :: st) h := by
  intro p e s m args below meth c H locs tys ws ls C hK hP hD hE hS hB hl
  have C0 := C
  obtain ⟨hx, hb, hml, hr, hlk, hown, hts, hin, htab⟩ := C
  exact lv_icmp_le hx hb hd ht (fun z => kt z p e s m args below meth c H locs tys ws ls C0 hK hP hD hE hS hB hl) (fun z => kf z p e s m args below meth c H locs tys ws ls C0 hK hP hD hE hS hB hl)
theorem x_if_eq {x : Int32} {off : Int} {tgt : Nat} (hd : decode M.cd pc = .ok (.ifCond .eq off, 3)) (ht : (pc : Int) + off = (tgt : Int)) (kt : x = 0 → X w M Q QX kc ns tgt L st h) (kf : ¬ x = 0 → X w M Q QX kc ns (pc + 3) L st h) : X w M Q QX kc ns pc L (.int x :: st) h := by
  intro p e s m args below meth c H locs tys ws ls C hK hP hD hE hS hB hl
  have C0 := C
  obtain ⟨hx, hb, hml, hr, hlk, hown, hts, hin, htab⟩ := C
  exact lv_if_eq hx hb hd ht (fun z => kt z p e s m args below meth c H locs tys ws ls C0 hK hP hD hE hS hB hl) (fun z => kf z p e s m args below meth c H locs tys ws ls C0 hK hP hD hE hS hB hl)
theorem x_if_ne {x : Int32} {off : Int} {tgt : Nat} (hd : decode M.cd pc = .ok (.ifCond .ne off, 3)) (ht : (pc : Int) + off = (tgt : Int)) (kt : ¬ x = 0 → X w M Q QX kc ns tgt L st h) (kf : x = 0 → X w M Q QX kc ns (pc + 3) L st h) : X w M Q QX kc ns pc L (.int x :: st) h := by
  intro p e s m args below meth c H locs tys ws ls C hK hP hD hE hS hB hl
  have C0 := C
  obtain ⟨hx, hb, hml, hr, hlk, hown, hts, hin, htab⟩ := C
  exact lv_if_ne hx hb hd ht (fun z => kt z p e s m args below meth c H locs tys ws ls C0 hK hP hD hE hS hB hl) (fun z => kf z p e s m args below meth c H locs tys ws ls C0 hK hP hD hE hS hB hl)
theorem x_if_lt {x : Int32} {off : Int} {tgt : Nat} (hd : decode M.cd pc = .ok (.ifCond .lt off, 3)) (ht : (pc : Int) + off = (tgt : Int)) (kt : x < 0 → X w M Q QX kc ns tgt L st h) (kf : ¬ x < 0 → X w M Q QX kc ns (pc + 3) L st h) : X w M Q QX kc ns pc L (.int x :: st) h := by
  intro p e s m args below meth c H locs tys ws ls C hK hP hD hE hS hB hl
  have C0 := C
  obtain ⟨hx, hb, hml, hr, hlk, hown, hts, hin, htab⟩ := C
  exact lv_if_lt hx hb hd ht (fun z => kt z p e s m args below meth c H locs tys ws ls C0 hK hP hD hE hS hB hl) (fun z => kf z p e s m args below meth c H locs tys ws ls C0 hK hP hD hE hS hB hl)
theorem x_if_ge {x : Int32} {off : Int} {tgt : Nat} (hd : decode M.cd pc = .ok (.ifCond .ge off, 3)) (ht : (pc : Int) + off = (tgt : Int)) (kt : 0 ≤ x → X w M Q QX kc ns tgt L st h) (kf : ¬ 0 ≤ x → X w M Q QX kc ns (pc + 3) L st h) : X w M Q QX kc ns pc L (.int x :: st) h := by
  intro p e s m args below meth c H locs tys ws ls C hK hP hD hE hS hB hl
  have C0 := C
  obtain ⟨hx, hb, hml, hr, hlk, hown, hts, hin, htab⟩ := C
  exact lv_if_ge hx hb hd ht (fun z => kt z p e s m args below meth c H locs tys ws ls C0 hK hP hD hE hS hB hl) (fun z => kf z p e s m args below meth c H locs tys ws ls C0 hK hP hD hE hS hB hl)
theorem x_if_gt {x : Int32} {off : Int} {tgt : Nat} (hd : decode M.cd pc = .ok (.ifCond .gt off, 3)) (ht : (pc : Int) + off = (tgt : Int)) (kt : 0 < x → X w M Q QX kc ns tgt L st h) (kf : ¬ 0 < x → X w M Q QX kc ns (pc + 3) L st h) : X w M Q QX kc ns pc L (.int x :: st) h := by
  intro p e s m args below meth c H locs tys ws ls C hK hP hD hE hS hB hl
  have C0 := C
  obtain ⟨hx, hb, hml, hr, hlk, hown, hts, hin, htab⟩ := C
  exact lv_if_gt hx hb hd ht (fun z => kt z p e s m args below meth c H locs tys ws ls C0 hK hP hD hE hS hB hl) (fun z => kf z p e s m args below meth c H locs tys ws ls C0 hK hP hD hE hS hB hl)
theorem x_if_le {x : Int32} {off : Int} {tgt : Nat} (hd : decode M.cd pc = .ok (.ifCond .le off, 3)) (ht : (pc : Int) + off = (tgt : Int)) (kt : x ≤ 0 → X w M Q QX kc ns tgt L st h) (kf : ¬ x ≤ 0 → X w M Q QX kc ns (pc + 3) L st h) : X w M Q QX kc ns pc L (.int x :: st) h := by
  intro p e s m args below meth c H locs tys ws ls C hK hP hD hE hS hB hl
  have C0 := C
  obtain ⟨hx, hb, hml, hr, hlk, hown, hts, hin, htab⟩ := C
  exact lv_if_le hx hb hd ht (fun z => kt z p e s m args below meth c H locs tys ws ls C0 hK hP hD hE hS hB hl) (fun z => kf z p e s m args below meth c H locs tys ws ls C0 hK hP hD hE hS hB hl)
theorem x_acmp_ne {rx ry : Option Nat} {off : Int} {tgt : Nat} (hd : decode M.cd pc = .ok (.if_acmp .ne off, 3)) (ht : (pc : Int) + off = (tgt : Int)) (kt : ¬ rx = ry → X w M Q QX kc ns tgt L st h) (kf : rx = ry → X w M Q QX kc ns (pc + 3) L st h) : X w M Q QX kc ns pc L (va_rf ry :: va_rf rx :: st) h := by
  intro p e s m args below meth c H locs tys ws ls C hK hP hD hE hS hB hl
  have C0 := C
  obtain ⟨hx, hb, hml, hr, hlk, hown, hts, hin, htab⟩ := C
  exact lv_acmp_ne hx hb hd ht (fun z => kt z p e s m args below meth c H locs tys ws ls C0 hK hP hD hE hS hB hl) (fun z => kf z p e s m args below meth c H locs tys ws ls C0 hK hP hD hE hS hB hl)
theorem x_goto {off : Int} {tgt : Nat} (hd : decode M.cd pc = .ok (.goto off, 3)) (ht : (pc : Int) + off = (tgt : Int)) (k : X w M Q QX kc ns tgt L st h) : X w M Q QX kc ns pc L st h := by
  intro p e s m args below meth c H locs tys ws ls C hK hP hD hE hS hB hl
  have C0 := C
  obtain ⟨hx, hb, hml, hr, hlk, hown, hts, hin, htab⟩ := C
  exact lv_goto hx hb hd ht (k p e s m args below meth c H locs tys ws ls C0 hK hP hD hE hS hB hl)
theorem x_ifnull {x : Nat} {off : Int} (hd : decode M.cd pc = .ok (.ifnull off, 3)) (k : X w M Q QX kc ns (pc + 3) L st h) : X w M Q QX kc ns pc L (.ref x :: st) h := by
  intro p e s m args below meth c H locs tys ws ls C hK hP hD hE hS hB hl
  have C0 := C
  obtain ⟨hx, hb, hml, hr, hlk, hown, hts, hin, htab⟩ := C
  exact lv_ifnull hx hb hd (k p e s m args below meth c H locs tys ws ls C0 hK hP hD hE hS hB hl)
theorem x_ifnullN {off : Int} {tgt : Nat} (hd : decode M.cd pc = .ok (.ifnull off, 3)) (ht : (pc : Int) + off = (tgt : Int)) (k : X w M Q QX kc ns tgt L st h) : X w M Q QX kc ns pc L (.null :: st) h := by
  intro p e s m args below meth c H locs tys ws ls C hK hP hD hE hS hB hl
  have C0 := C
  obtain ⟨hx, hb, hml, hr, hlk, hown, hts, hin, htab⟩ := C
  exact lv_ifnullN hx hb hd ht (k p e s m args below meth c H locs tys ws ls C0 hK hP hD hE hS hB hl)
theorem x_ifnonnull {x : Nat} {off : Int} {tgt : Nat} (hd : decode M.cd pc = .ok (.ifnonnull off, 3)) (ht : (pc : Int) + off = (tgt : Int)) (k : X w M Q QX kc ns tgt L st h) : X w M Q QX kc ns pc L (.ref x :: st) h := by
  intro p e s m args below meth c H locs tys ws ls C hK hP hD hE hS hB hl
  have C0 := C
  obtain ⟨hx, hb, hml, hr, hlk, hown, hts, hin, htab⟩ := C
  exact lv_ifnonnull hx hb hd ht (k p e s m args below meth c H locs tys ws ls C0 hK hP hD hE hS hB hl)
theorem x_ifnonnullN {off : Int} (hd : decode M.cd pc = .ok (.ifnonnull off, 3)) (k : X w M Q QX kc ns (pc + 3) L st h) : X w M Q QX kc ns pc L (.null :: st) h := by
  intro p e s m args below meth c H locs tys ws ls C hK hP hD hE hS hB hl
  have C0 := C
  obtain ⟨hx, hb, hml, hr, hlk, hown, hts, hin, htab⟩ := C
  exact lv_ifnonnullN hx hb hd (k p e s m args below meth c H locs tys ws ls C0 hK hP hD hE hS hB hl)
theorem x_tabIn {dflt lo hi : Int} {offs : Array Int} {len tgt : Nat} {x : Int32} {off : Int} (hd : decode M.cd pc = .ok (.tableswitch dflt lo hi offs, len)) (h1 : ¬ x.toInt < lo) (h2 : ¬ hi < x.toInt) (ho : offs[(x.toInt - lo).toNat]? = some off) (ht : (pc : Int) + off = (tgt : Int)) (k : X w M Q QX kc ns tgt L st h) : X w M Q QX kc ns pc L (.int x :: st) h := by
  intro p e s m args below meth c H locs tys ws ls C hK hP hD hE hS hB hl
  have C0 := C
  obtain ⟨hx, hb, hml, hr, hlk, hown, hts, hin, htab⟩ := C
  exact lv_tableIn hx hb hd h1 h2 ho ht (k p e s m args below meth c H locs tys ws ls C0 hK hP hD hE hS hB hl)
theorem x_tabOut {dflt lo hi : Int} {offs : Array Int} {len tgt : Nat} {x : Int32} (hd : decode M.cd pc = .ok (.tableswitch dflt lo hi offs, len)) (h1 : x.toInt < lo ∨ hi < x.toInt) (ht : (pc : Int) + dflt = (tgt : Int)) (k : X w M Q QX kc ns tgt L st h) : X w M Q QX kc ns pc L (.int x :: st) h := by
  intro p e s m args below meth c H locs tys ws ls C hK hP hD hE hS hB hl
  have C0 := C
  obtain ⟨hx, hb, hml, hr, hlk, hown, hts, hin, htab⟩ := C
  exact lv_tableOut hx hb hd h1 ht (k p e s m args below meth c H locs tys ws ls C0 hK hP hD hE hS hB hl)
theorem x_ldc {idx : Nat} {v : Int32} (hd : decode M.cd pc = .ok (.ldc idx, 2)) (hc : Cond.constant M.ow idx v ∈ TB) (k : X w M Q QX kc ns (pc + 2) L (.int v :: st) h) : X w M Q QX kc ns pc L st h := by
  intro p e s m args below meth c H locs tys ws ls C hK hP hD hE hS hB hl
  have C0 := C
  obtain ⟨hx, hb, hml, hr, hlk, hown, hts, hin, htab⟩ := C
  exact lv_ldc hx hb hown (hts _ hc) hd (k p e s m args below meth c H locs tys ws ls C0 hK hP hD hE hS hB hl)
end XR
end
section

/-! HEAP RULES, CALLS, ENDS, CONTRACTS -/
theorem Em.obj {tys : List (ClassId × FieldType)} {ws : va_W} {h : AH} {a ci : Nat} {ks : List Bool} (hE : Em tys ws h) (ht : gT h a = ci + 1) (hc : clsL[ci]? = some ks) (h10 : ci < 10) : ∃ q0 : Nat, ws[q0]? = some (a, .inr (ci, encF h a 0 ks)) := by
  obtain ⟨q0, e, h1, h2⟩ := hE.1 a (by omega)
  rcases h2 with ⟨ci', ks', g1, g2, g3, g4⟩ | ⟨cA, t0, g1, g2, -, -⟩
  · have hcc : ci' = ci := by omega
    subst hcc
    rw [hc] at g3
    cases g3
    exact ⟨q0, by rw [h1, g4]⟩
  · omega
theorem Em.arr {tys : List (ClassId × FieldType)} {ws : va_W} {h : AH} {a : Nat} (hE : Em tys ws h) (h1 : 11 ≤ gT h a) : ∃ (q0 : Nat) (cA : ClassId) (t0 : Nat), gT h a ≤ 17 ∧ ws[q0]? = some (a, .inl (cA, encA h a)) ∧ tys[t0]? = some (cA, ety (gT h a)) := by
  obtain ⟨q0, e, g1, g2⟩ := hE.1 a (by omega)
  rcases g2 with ⟨ci', ks', g3, g4, -, -⟩ | ⟨cA, t0, g3, g4, g5, g6⟩
  · omega
  · exact ⟨q0, cA, t0, g4, by rw [g1, g6], g5⟩
theorem encA_I {h : AH} {a : Nat} (ht : gT h a = 11) : encA h a = (gN h a, .inl (gI h a)) := by simp [encA, ht]
theorem encA_Z {h : AH} {a : Nat} (ht : gT h a = 12) : encA h a = (gN h a, .inl (gI h a)) := by simp [encA, ht]
theorem encA_L {h : AH} {a : Nat} (ht : gT h a = 13) : encA h a = (gN h a, .inr (.inl (gL h a))) := by simp [encA, ht]
theorem encA_R {h : AH} {a : Nat} (h1 : 14 ≤ gT h a) : encA h a = (gN h a, .inr (.inr (.inr (.inr (gR h a))))) := by
  unfold encA
  split
  · omega
  · omega
  · omega
  · rfl
theorem goodTB {ws : List Cond} (h : ∀ t ∈ ws, t ∈ TB) : GoodIn TB ws := fun t ht => ⟨h t ht, good_of_word (TB_good (h t ht))⟩
section XH
variable {w : W0} {M : MI} {Q : Option Value → AH → Prop} {QX : String → AH → Prop} {kc ns pc : Nat} {L : List (Option Value)} {st : List Value} {h : AH}
theorem x_getI {idx ci kf a : Nat} (hd : decode M.cd pc = .ok (.getfield idx, 3)) (hf : FG M.ow idx ci kf) (hk : (clsL.getD ci [])[kf]? = some false) (ht : gT h a = ci + 1) (k : X w M Q QX kc ns (pc + 3) L (.int (gI h a kf) :: st) h) : X w M Q QX kc ns pc L (.ref a :: st) h := by
  intro p e s m args below meth c H locs tys ws ls C hK hP hD hE hS hB hl
  have C0 := C
  obtain ⟨hx, hb, hml, hr, hlk, hown, hts, hin, htab⟩ := C
  obtain ⟨Cn, T, N, ty, ks, ⟨c1, c2, c3, c4, c5, c6, c7, c8⟩, hkN, hlink⟩ := hf
  obtain ⟨q0, he⟩ := hE.obj ht c5 c7
  refine va_get (D := w.dg) (ci := ci) (v := .int (gI h a kf)) hx hb hts c2 hown hK hP q0 he c1 kf hkN (hts _ hlink) (fun _ z => z) ?_ hd (k p e s m args below meth c H locs tys ws ls C0 hK hP hD hE hS hB hl)
  have hk2 : ks[kf]? = some false := by simpa [List.getD_eq_getElem?_getD, c5] using hk
  simpa using encF_get h a ks 0 kf false hk2
theorem x_getR {idx ci kf a : Nat} (hd : decode M.cd pc = .ok (.getfield idx, 3)) (hf : FG M.ow idx ci kf) (hk : (clsL.getD ci [])[kf]? = some true) (ht : gT h a = ci + 1) (k : X w M Q QX kc ns (pc + 3) L (va_rf (gR h a kf) :: st) h) : X w M Q QX kc ns pc L (.ref a :: st) h := by
  intro p e s m args below meth c H locs tys ws ls C hK hP hD hE hS hB hl
  have C0 := C
  obtain ⟨hx, hb, hml, hr, hlk, hown, hts, hin, htab⟩ := C
  obtain ⟨Cn, T, N, ty, ks, ⟨c1, c2, c3, c4, c5, c6, c7, c8⟩, hkN, hlink⟩ := hf
  obtain ⟨q0, he⟩ := hE.obj ht c5 c7
  refine va_get (D := w.dg) (ci := ci) (v := va_rf (gR h a kf)) hx hb hts c2 hown hK hP q0 he c1 kf hkN (hts _ hlink) (fun _ z => z) ?_ hd (k p e s m args below meth c H locs tys ws ls C0 hK hP hD hE hS hB hl)
  have hk2 : ks[kf]? = some true := by simpa [List.getD_eq_getElem?_getD, c5] using hk
  simpa using encF_get h a ks 0 kf true hk2
theorem Em.putI {tys : List (ClassId × FieldType)} {ws : va_W} {q0 a ci kf : Nat} {v : Int32} {ks : List Bool} {h : AH} (hE : Em tys ws h) (he : ws[q0]? = some (a, .inr (ci, encF h a 0 ks))) (ht : gT h a = ci + 1) (c5 : clsL[ci]? = some ks) (c7 : ci < 10) (hk : ks[kf]? = some false) :
    Em tys (ws.set q0 (a, .inr (ci, (encF h a 0 ks).set kf (.int v)))) (sI h a kf v) := by
  have e := encF_setI (h := h) (a := a) (v := v) ks 0 kf hk
  rw [Nat.zero_add] at e
  rw [e]
  exact hE.upd he (fun _ => rfl) (fun b hb e he => he.cong (h := h) (h' := sI h a kf v) rfl rfl (fun j => by rw [gI_sI, if_neg (fun z => hb z.1)]) (fun _ => rfl) (fun _ => rfl)) (Or.inl ⟨ci, ks, ht, c7, c5, rfl⟩)
theorem Em.putR {tys : List (ClassId × FieldType)} {ws : va_W} {q0 a ci kf : Nat} {v : Option Nat} {ks : List Bool} {h : AH} (hE : Em tys ws h) (he : ws[q0]? = some (a, .inr (ci, encF h a 0 ks))) (ht : gT h a = ci + 1) (c5 : clsL[ci]? = some ks) (c7 : ci < 10) (hk : ks[kf]? = some true) :
    Em tys (ws.set q0 (a, .inr (ci, (encF h a 0 ks).set kf (va_rf v)))) (sR h a kf v) := by
  have e := encF_setR (h := h) (a := a) (v := v) ks 0 kf hk
  rw [Nat.zero_add] at e
  rw [e]
  exact hE.upd he (fun _ => rfl) (fun b hb e he => he.cong (h := h) (h' := sR h a kf v) rfl rfl (fun _ => rfl) (fun j => by rw [gR_sR, if_neg (fun z => hb z.1)]) (fun _ => rfl)) (Or.inl ⟨ci, ks, ht, c7, c5, rfl⟩)
theorem x_putI {idx ci kf a : Nat} {v : Int32} (hd : decode M.cd pc = .ok (.putfield idx, 3)) (hf : FP M.ow idx ci kf false .int) (hk : (clsL.getD ci [])[kf]? = some false) (ht : gT h a = ci + 1) (k : X w M Q QX kc ns (pc + 3) L st (sI h a kf v)) : X w M Q QX kc ns pc L (.int v :: .ref a :: st) h := by
  intro p e s m args below meth c H locs tys ws ls C hK hP hD hE hS hB hl
  have C0 := C
  obtain ⟨hx, hb, hml, hr, hlk, hown, hts, hin, htab⟩ := C
  obtain ⟨Cn, T, N, ty, ks, ⟨c1, c2, c3, c4, c5, c6, c7, c8⟩, hkN, hlink, hfin, hty, hdecl⟩ := hf
  obtain ⟨q0, he⟩ := hE.obj ht c5 c7
  have hk2 : ks[kf]? = some false := by simpa [List.getD_eq_getElem?_getD, c5] using hk
  have hnf : narrow .int (.int v) = .int v ∧ fits .int (.int v) = true := ⟨rfl, rfl⟩
  refine va_put (D := w.dg) (ci := ci) (v := .int v) (ty := .int) hx hb hts c2 ty c3 c4 hown hK hP hD hS q0 he c1 kf hkN (hts _ hlink) (fun _ z => z) hfin (by rw [c3 kf hkN, hty]) hnf.1 hnf.2 (by rw [encF_len, c6]; exact hkN) hd (fun H1 locs1 hP1 hD1 hS1 => ?_)
  exact k p e s m args below meth c H1 locs1 tys _ ls C0 hK hP1 hD1 (hE.putI he ht c5 c7 hk2) hS1 hB hl
theorem x_putZ {idx ci kf a : Nat} {v : Int32} (hd : decode M.cd pc = .ok (.putfield idx, 3)) (hf : FP M.ow idx ci kf false .boolean) (hk : (clsL.getD ci [])[kf]? = some false) (ht : gT h a = ci + 1) (hv : v = 0 ∨ v = 1) (k : X w M Q QX kc ns (pc + 3) L st (sI h a kf v)) : X w M Q QX kc ns pc L (.int v :: .ref a :: st) h := by
  intro p e s m args below meth c H locs tys ws ls C hK hP hD hE hS hB hl
  have C0 := C
  obtain ⟨hx, hb, hml, hr, hlk, hown, hts, hin, htab⟩ := C
  obtain ⟨Cn, T, N, ty, ks, ⟨c1, c2, c3, c4, c5, c6, c7, c8⟩, hkN, hlink, hfin, hty, hdecl⟩ := hf
  obtain ⟨q0, he⟩ := hE.obj ht c5 c7
  have hk2 : ks[kf]? = some false := by simpa [List.getD_eq_getElem?_getD, c5] using hk
  have hnf : narrow .boolean (.int v) = .int v ∧ fits .boolean (.int v) = true := by rcases hv with rfl | rfl <;> exact ⟨by decide, by decide⟩
  refine va_put (D := w.dg) (ci := ci) (v := .int v) (ty := .boolean) hx hb hts c2 ty c3 c4 hown hK hP hD hS q0 he c1 kf hkN (hts _ hlink) (fun _ z => z) hfin (by rw [c3 kf hkN, hty]) hnf.1 hnf.2 (by rw [encF_len, c6]; exact hkN) hd (fun H1 locs1 hP1 hD1 hS1 => ?_)
  exact k p e s m args below meth c H1 locs1 tys _ ls C0 hK hP1 hD1 (hE.putI he ht c5 c7 hk2) hS1 hB hl
theorem x_putR {idx ci kf a : Nat} {v : Option Nat} {Cl : String} (hd : decode M.cd pc = .ok (.putfield idx, 3)) (hf : FP M.ow idx ci kf false (.object Cl)) (hk : (clsL.getD ci [])[kf]? = some true) (ht : gT h a = ci + 1) (k : X w M Q QX kc ns (pc + 3) L st (sR h a kf v)) : X w M Q QX kc ns pc L (va_rf v :: .ref a :: st) h := by
  intro p e s m args below meth c H locs tys ws ls C hK hP hD hE hS hB hl
  have C0 := C
  obtain ⟨hx, hb, hml, hr, hlk, hown, hts, hin, htab⟩ := C
  obtain ⟨Cn, T, N, ty, ks, ⟨c1, c2, c3, c4, c5, c6, c7, c8⟩, hkN, hlink, hfin, hty, hdecl⟩ := hf
  obtain ⟨q0, he⟩ := hE.obj ht c5 c7
  have hk2 : ks[kf]? = some true := by simpa [List.getD_eq_getElem?_getD, c5] using hk
  have hnf : narrow (.object Cl) (va_rf v) = va_rf v ∧ fits (.object Cl) (va_rf v) = true := by cases v <;> exact ⟨rfl, rfl⟩
  refine va_put (D := w.dg) (ci := ci) (v := va_rf v) (ty := (.object Cl)) hx hb hts c2 ty c3 c4 hown hK hP hD hS q0 he c1 kf hkN (hts _ hlink) (fun _ z => z) hfin (by rw [c3 kf hkN, hty]) hnf.1 hnf.2 (by rw [encF_len, c6]; exact hkN) hd (fun H1 locs1 hP1 hD1 hS1 => ?_)
  exact k p e s m args below meth c H1 locs1 tys _ ls C0 hK hP1 hD1 (hE.putR he ht c5 c7 hk2) hS1 hB hl
theorem x_putFI {idx ci kf a : Nat} {v : Int32} (hd : decode M.cd pc = .ok (.putfield idx, 3)) (hf : FP M.ow idx ci kf true .int) (hk : (clsL.getD ci [])[kf]? = some false) (ht : gT h a = ci + 1) (hii : M.ii = true) (k : X w M Q QX kc ns (pc + 3) L st (sI h a kf v)) : X w M Q QX kc ns pc L (.int v :: .ref a :: st) h := by
  intro p e s m args below meth c H locs tys ws ls C hK hP hD hE hS hB hl
  have C0 := C
  obtain ⟨hx, hb, hml, hr, hlk, hown, hts, hin, htab⟩ := C
  obtain ⟨Cn, T, N, ty, ks, ⟨c1, c2, c3, c4, c5, c6, c7, c8⟩, hkN, hlink, hfin, hty, hdecl⟩ := hf
  obtain ⟨q0, he⟩ := hE.obj ht c5 c7
  have hk2 : ks[kf]? = some false := by simpa [List.getD_eq_getElem?_getD, c5] using hk
  have hnf : narrow .int (.int v) = .int v ∧ fits .int (.int v) = true := ⟨rfl, rfl⟩
  refine va_putF (D := w.dg) (ci := ci) (v := .int v) (ty := .int) hx hb hts c2 ty c3 c4 hown hK hP hD hS q0 he c1 kf hkN (hts _ hlink) (fun _ z => z) hfin (hin hii) (hdecl rfl) (by rw [c3 kf hkN, hty]) hnf.1 hnf.2 (by rw [encF_len, c6]; exact hkN) hd (fun H1 locs1 hP1 hD1 hS1 => ?_)
  exact k p e s m args below meth c H1 locs1 tys _ ls C0 hK hP1 hD1 (hE.putI he ht c5 c7 hk2) hS1 hB hl
theorem x_putFR {idx ci kf a : Nat} {v : Option Nat} {Cl : String} (hd : decode M.cd pc = .ok (.putfield idx, 3)) (hf : FP M.ow idx ci kf true (.object Cl)) (hk : (clsL.getD ci [])[kf]? = some true) (ht : gT h a = ci + 1) (hii : M.ii = true) (k : X w M Q QX kc ns (pc + 3) L st (sR h a kf v)) : X w M Q QX kc ns pc L (va_rf v :: .ref a :: st) h := by
  intro p e s m args below meth c H locs tys ws ls C hK hP hD hE hS hB hl
  have C0 := C
  obtain ⟨hx, hb, hml, hr, hlk, hown, hts, hin, htab⟩ := C
  obtain ⟨Cn, T, N, ty, ks, ⟨c1, c2, c3, c4, c5, c6, c7, c8⟩, hkN, hlink, hfin, hty, hdecl⟩ := hf
  obtain ⟨q0, he⟩ := hE.obj ht c5 c7
  have hk2 : ks[kf]? = some true := by simpa [List.getD_eq_getElem?_getD, c5] using hk
  have hnf : narrow (.object Cl) (va_rf v) = va_rf v ∧ fits (.object Cl) (va_rf v) = true := by cases v <;> exact ⟨rfl, rfl⟩
  refine va_putF (D := w.dg) (ci := ci) (v := va_rf v) (ty := (.object Cl)) hx hb hts c2 ty c3 c4 hown hK hP hD hS q0 he c1 kf hkN (hts _ hlink) (fun _ z => z) hfin (hin hii) (hdecl rfl) (by rw [c3 kf hkN, hty]) hnf.1 hnf.2 (by rw [encF_len, c6]; exact hkN) hd (fun H1 locs1 hP1 hD1 hS1 => ?_)
  exact k p e s m args below meth c H1 locs1 tys _ ls C0 hK hP1 hD1 (hE.putR he ht c5 c7 hk2) hS1 hB hl
theorem x_putFA {idx ci kf a : Nat} {v : Option Nat} {Ta : FieldType} (hd : decode M.cd pc = .ok (.putfield idx, 3)) (hf : FP M.ow idx ci kf true (.array Ta)) (hk : (clsL.getD ci [])[kf]? = some true) (ht : gT h a = ci + 1) (hii : M.ii = true) (k : X w M Q QX kc ns (pc + 3) L st (sR h a kf v)) : X w M Q QX kc ns pc L (va_rf v :: .ref a :: st) h := by
  intro p e s m args below meth c H locs tys ws ls C hK hP hD hE hS hB hl
  have C0 := C
  obtain ⟨hx, hb, hml, hr, hlk, hown, hts, hin, htab⟩ := C
  obtain ⟨Cn, T, N, ty, ks, ⟨c1, c2, c3, c4, c5, c6, c7, c8⟩, hkN, hlink, hfin, hty, hdecl⟩ := hf
  obtain ⟨q0, he⟩ := hE.obj ht c5 c7
  have hk2 : ks[kf]? = some true := by simpa [List.getD_eq_getElem?_getD, c5] using hk
  have hnf : narrow (.array Ta) (va_rf v) = va_rf v ∧ fits (.array Ta) (va_rf v) = true := by cases v <;> exact ⟨rfl, rfl⟩
  refine va_putF (D := w.dg) (ci := ci) (v := va_rf v) (ty := (.array Ta)) hx hb hts c2 ty c3 c4 hown hK hP hD hS q0 he c1 kf hkN (hts _ hlink) (fun _ z => z) hfin (hin hii) (hdecl rfl) (by rw [c3 kf hkN, hty]) hnf.1 hnf.2 (by rw [encF_len, c6]; exact hkN) hd (fun H1 locs1 hP1 hD1 hS1 => ?_)
  exact k p e s m args below meth c H1 locs1 tys _ ls C0 hK hP1 hD1 (hE.putR he ht c5 c7 hk2) hS1 hB hl

theorem encF_new {h : AH} {q t n : Nat} : ∀ (ks : List Bool) (k0 : Nat), encF (nO h q t n) q k0 ks = ks.map (fun b => if b then Value.null else .int 0)
  | [], _ => rfl
  | b :: r, k0 => by
    cases b <;> simp [encF, encF_new r, gI_nO, gR_nO, va_rf]
theorem x_new {idx ci N : Nat} {Cl : String} {T : u_T} {ty : Nat → FieldType} {ks : List Bool} (hd : decode M.cd pc = .ok (.new idx, 3)) (hci : CI ci Cl T N ty ks) (hcl : Cond.classLink M.ow idx Cl ∈ TB) (hinst : Cond.instantiable Cl N ∈ TB) (hini : Cond.initialized Cl ∈ TB) (hc : kc + 1 ≤ M.rm.cells) (hs : ns + N ≤ M.rm.slots)
    (k : ∀ q : Nat, gT h q = 0 → X w M Q QX (kc + 1) (ns + N) (pc + 3) L (.ref q :: st) (nO h q (ci + 1) 0)) : X w M Q QX kc ns pc L st h := by
  intro p e s m args below meth c H locs tys ws ls C hK hP hD hE hS hB hl
  have C0 := C
  obtain ⟨hx, hb, hml, hr, hlk, hown, hts, hin, htab⟩ := C
  obtain ⟨c1, c2, c3, c4, c5, c6, c7, c8⟩ := hci
  refine va_new (D := w.dg) (ci := ci) (fs := ks.map (fun b => if b then Value.null else .int 0)) hx hb hts c2 ty c3 hown (hts _ hcl) (hts _ hinst) (hts _ hini) hK hP hD hS (fun q hq => Nat.le_trans hB.2.1 hq) c1 (fun j hj => ?_) hc hs hd (fun q H1 hP1 hD1 hS1 => ?_)
  · rw [c8 j hj]
    have hl : j < ks.length := by rw [c6]; exact hj
    simp only [vp_V, List.getD_eq_getElem?_getD, List.getElem?_map, List.getElem?_eq_getElem hl, Option.map_some, Option.getD_some, Option.some.injEq]
  · obtain ⟨hq0, hE1⟩ := hE.push (t := ci + 1) (n := 0) hD1 (Nat.succ_ne_zero _) (Or.inl ⟨ci, ks, by rw [gT_nO, if_pos rfl], c7, c5, by rw [encF_new]⟩)
    exact k q hq0 p e s m args below meth c H1 locs tys _ ls C0 hK hP1 hD1 hE1 hS1 hB hl
theorem x_newI {n : Int32} {N' : Nat} (hd : decode M.cd pc = .ok (.newarray .int, 2)) (harr : Cond.arrayClass .int ∈ TB) (hn : ¬ n < 0) (hN : n.toNatClampNeg = N') (hb2 : N' * 8 ≤ 536870912) (hc : kc + 1 ≤ M.rm.cells) (hs : ns + N' ≤ M.rm.slots)
    (k : ∀ q : Nat, gT h q = 0 → X w M Q QX (kc + 1) (ns + N') (pc + 2) L (.ref q :: st) (nO h q 11 N')) : X w M Q QX kc ns pc L (.int n :: st) h := by
  intro p e s m args below meth c H locs tys ws ls C hK hP hD hE hS hB hl
  have C0 := C
  obtain ⟨hx, hb, hml, hr, hlk, hown, hts, hin, htab⟩ := C
  refine va_newa (D := w.dg) (atype := .int) hx hb (hts _ harr) rfl hK hP hD hS (fun q hq => Nat.le_trans hB.2.1 hq) (a0 := (N', .inl (fun _ => 0))) (fun cA => vp_cell_i cA N' _) hn hN (by simp only [newarray.typeOf, componentBytes]; omega) hc hs hd (fun q cA H1 hK1 hP1 hD1 hS1 => ?_)
  obtain ⟨hq0, hE1⟩ := (hE.more [(cA, .int)]).push (t := 11) (n := N') hD1 (by decide) (Or.inr ⟨cA, tys.length, by rw [gT_nO, if_pos rfl]; decide, by rw [gT_nO, if_pos rfl]; decide, by rw [gT_nO, if_pos rfl]; simp [ety], by
    rw [encA_I (by rw [gT_nO, if_pos rfl]), gN_nO, if_pos rfl]
    congr
    funext j
    simp [gI_nO, gL_nO]⟩)
  exact k q hq0 p e s m args below meth c H1 locs _ _ ls C0 hK1 hP1 hD1 hE1 hS1 hB hl
theorem x_newZ {n : Int32} {N' : Nat} (hd : decode M.cd pc = .ok (.newarray .boolean, 2)) (harr : Cond.arrayClass .boolean ∈ TB) (hn : ¬ n < 0) (hN : n.toNatClampNeg = N') (hb2 : N' * 8 ≤ 536870912) (hc : kc + 1 ≤ M.rm.cells) (hs : ns + N' ≤ M.rm.slots)
    (k : ∀ q : Nat, gT h q = 0 → X w M Q QX (kc + 1) (ns + N') (pc + 2) L (.ref q :: st) (nO h q 12 N')) : X w M Q QX kc ns pc L (.int n :: st) h := by
  intro p e s m args below meth c H locs tys ws ls C hK hP hD hE hS hB hl
  have C0 := C
  obtain ⟨hx, hb, hml, hr, hlk, hown, hts, hin, htab⟩ := C
  refine va_newa (D := w.dg) (atype := .boolean) hx hb (hts _ harr) rfl hK hP hD hS (fun q hq => Nat.le_trans hB.2.1 hq) (a0 := (N', .inl (fun _ => 0))) (fun cA => vp_cell_i cA N' _) hn hN (by simp only [newarray.typeOf, componentBytes]; omega) hc hs hd (fun q cA H1 hK1 hP1 hD1 hS1 => ?_)
  obtain ⟨hq0, hE1⟩ := (hE.more [(cA, .boolean)]).push (t := 12) (n := N') hD1 (by decide) (Or.inr ⟨cA, tys.length, by rw [gT_nO, if_pos rfl]; decide, by rw [gT_nO, if_pos rfl]; decide, by rw [gT_nO, if_pos rfl]; simp [ety], by
    rw [encA_Z (by rw [gT_nO, if_pos rfl]), gN_nO, if_pos rfl]
    congr
    funext j
    simp [gI_nO, gL_nO]⟩)
  exact k q hq0 p e s m args below meth c H1 locs _ _ ls C0 hK1 hP1 hD1 hE1 hS1 hB hl
theorem x_newL {n : Int32} {N' : Nat} (hd : decode M.cd pc = .ok (.newarray .long, 2)) (harr : Cond.arrayClass .long ∈ TB) (hn : ¬ n < 0) (hN : n.toNatClampNeg = N') (hb2 : N' * 8 ≤ 536870912) (hc : kc + 1 ≤ M.rm.cells) (hs : ns + N' ≤ M.rm.slots)
    (k : ∀ q : Nat, gT h q = 0 → X w M Q QX (kc + 1) (ns + N') (pc + 2) L (.ref q :: st) (nO h q 13 N')) : X w M Q QX kc ns pc L (.int n :: st) h := by
  intro p e s m args below meth c H locs tys ws ls C hK hP hD hE hS hB hl
  have C0 := C
  obtain ⟨hx, hb, hml, hr, hlk, hown, hts, hin, htab⟩ := C
  refine va_newa (D := w.dg) (atype := .long) hx hb (hts _ harr) rfl hK hP hD hS (fun q hq => Nat.le_trans hB.2.1 hq) (a0 := (N', .inr (.inl (fun _ => 0)))) (fun cA => vp_cell_l cA N' _) hn hN (by simp only [newarray.typeOf, componentBytes]; omega) hc hs hd (fun q cA H1 hK1 hP1 hD1 hS1 => ?_)
  obtain ⟨hq0, hE1⟩ := (hE.more [(cA, .long)]).push (t := 13) (n := N') hD1 (by decide) (Or.inr ⟨cA, tys.length, by rw [gT_nO, if_pos rfl]; decide, by rw [gT_nO, if_pos rfl]; decide, by rw [gT_nO, if_pos rfl]; simp [ety], by
    rw [encA_L (by rw [gT_nO, if_pos rfl]), gN_nO, if_pos rfl]
    congr
    funext j
    simp [gI_nO, gL_nO]⟩)
  exact k q hq0 p e s m args below meth c H1 locs _ _ ls C0 hK1 hP1 hD1 hE1 hS1 hB hl

theorem x_newq {n : Int32} {N' idx t : Nat} {Cl : String} (hd : decode M.cd pc = .ok (.anewarray idx, 3)) (hcl : Cond.classLink M.ow idx Cl ∈ TB) (hao : Cl ∈ AOl) (hty : ety t = .object Cl) (h14 : 14 ≤ t) (h17 : t ≤ 17) (hn : ¬ n < 0) (hN : n.toNatClampNeg = N') (hb2 : N' * 8 ≤ 536870912) (hc : kc + 1 ≤ M.rm.cells) (hs : ns + N' ≤ M.rm.slots)
    (k : ∀ q : Nat, gT h q = 0 → X w M Q QX (kc + 1) (ns + N') (pc + 3) L (.ref q :: st) (nO h q t N')) : X w M Q QX kc ns pc L (.int n :: st) h := by
  intro p e s m args below meth c H locs tys ws ls C hK hP hD hE hS hB hl
  have C0 := C
  obtain ⟨hx, hb, hml, hr, hlk, hown, hts, hin, htab⟩ := C
  refine va_newq (D := w.dg) (C := Cl) hx hb hown (hts _ hcl) (hB.2.2.2.2.2.2.2.2.2.2.2.2 Cl hao) hK hP hD hS (fun q hq => Nat.le_trans hB.2.1 hq) hn hN (by omega) hc hs hd (fun q cA H1 hK1 hP1 hD1 hS1 => ?_)
  have htq : gT (nO h q t N') q = t := by rw [gT_nO, if_pos rfl]
  obtain ⟨hq0, hE1⟩ := (hE.more [(cA, .object Cl)]).push (t := t) (n := N') hD1 (by omega) (Or.inr ⟨cA, tys.length, by rw [htq]; omega, by rw [htq]; exact h17, by rw [htq, hty]; simp, by
    rw [encA_R (by rw [htq]; exact h14), gN_nO, if_pos rfl]
    congr
    funext j
    simp [gR_nO]⟩)
  exact k q hq0 p e s m args below meth c H1 locs _ _ ls C0 hK1 hP1 hD1 hE1 hS1 hB hl
theorem x_iald {i : Int32} {a : Nat} (hd : decode M.cd pc = .ok (.iaload, 1)) (ht : gT h a = 11) (hi : vp_in i (gN h a)) (k : X w M Q QX kc ns (pc + 1) L (.int (gI h a i.toNatClampNeg) :: st) h) : X w M Q QX kc ns pc L (.int i :: .ref a :: st) h := by
  intro p e s m args below meth c H locs tys ws ls C hK hP hD hE hS hB hl
  have C0 := C
  obtain ⟨hx, hb, hml, hr, hlk, hown, hts, hin, htab⟩ := C
  obtain ⟨q0, cA, t0, -, g1, g2⟩ := hE.arr (a := a) (by rw [ht]; decide)
  rw [encA_I ht] at g1
  rw [ht] at g2
  exact va_iald (D := w.dg) hx hb hK hP q0 t0 g1 g2 hi hd (k p e s m args below meth c H locs tys ws ls C0 hK hP hD hE hS hB hl)
theorem x_zald {i : Int32} {a : Nat} (hd : decode M.cd pc = .ok (.baload, 1)) (ht : gT h a = 12) (hi : vp_in i (gN h a)) (k : X w M Q QX kc ns (pc + 1) L (.int (gI h a i.toNatClampNeg) :: st) h) : X w M Q QX kc ns pc L (.int i :: .ref a :: st) h := by
  intro p e s m args below meth c H locs tys ws ls C hK hP hD hE hS hB hl
  have C0 := C
  obtain ⟨hx, hb, hml, hr, hlk, hown, hts, hin, htab⟩ := C
  obtain ⟨q0, cA, t0, -, g1, g2⟩ := hE.arr (a := a) (by rw [ht]; decide)
  rw [encA_Z ht] at g1
  rw [ht] at g2
  exact va_zald (D := w.dg) hx hb hK hP q0 t0 g1 g2 hi hd (k p e s m args below meth c H locs tys ws ls C0 hK hP hD hE hS hB hl)
theorem x_lald {i : Int32} {a : Nat} (hd : decode M.cd pc = .ok (.laload, 1)) (ht : gT h a = 13) (hi : vp_in i (gN h a)) (k : X w M Q QX kc ns (pc + 1) L (.long (gL h a i.toNatClampNeg) :: st) h) : X w M Q QX kc ns pc L (.int i :: .ref a :: st) h := by
  intro p e s m args below meth c H locs tys ws ls C hK hP hD hE hS hB hl
  have C0 := C
  obtain ⟨hx, hb, hml, hr, hlk, hown, hts, hin, htab⟩ := C
  obtain ⟨q0, cA, t0, -, g1, g2⟩ := hE.arr (a := a) (by rw [ht]; decide)
  rw [encA_L ht] at g1
  rw [ht] at g2
  exact va_lald (D := w.dg) hx hb hK hP q0 t0 g1 g2 hi hd (k p e s m args below meth c H locs tys ws ls C0 hK hP hD hE hS hB hl)
theorem x_iast {i : Int32} {a : Nat} {x : Int32} (hd : decode M.cd pc = .ok (.iastore, 1)) (ht : gT h a = 11) (hi : vp_in i (gN h a)) (k : X w M Q QX kc ns (pc + 1) L st (sI h a i.toNatClampNeg x)) : X w M Q QX kc ns pc L (.int x :: .int i :: .ref a :: st) h := by
  intro p e s m args below meth c H locs tys ws ls C hK hP hD hE hS hB hl
  have C0 := C
  obtain ⟨hx, hb, hml, hr, hlk, hown, hts, hin, htab⟩ := C
  obtain ⟨q0, cA, t0, -, g1, g2⟩ := hE.arr (a := a) (by rw [ht]; decide)
  rw [encA_I ht] at g1
  rw [ht] at g2
  refine va_iast (D := w.dg) hx hb hK hP hD hS q0 t0 g1 g2 hi hd (fun H1 locs1 hP1 hD1 hS1 => ?_)
  refine k p e s m args below meth c H1 locs1 tys _ ls C0 hK hP1 hD1 (hE.upd g1 (fun _ => rfl) (fun b hb e he => he.cong (h := h) (h' := sI h a i.toNatClampNeg x) rfl rfl (fun j => by rw [gI_sI, if_neg (fun z => hb z.1)]) (fun _ => rfl) (fun _ => rfl)) (Or.inr ⟨cA, t0, by show 11 ≤ gT h a; rw [ht]; decide, by show gT h a ≤ 17; rw [ht]; decide, by show tys[t0]? = some (cA, ety (gT h a)); rw [ht]; exact g2, ?_⟩)) hS1 hB hl
  rw [encA_I (h := sI h a i.toNatClampNeg x) ht]
  have e1 : gI (sI h a i.toNatClampNeg x) a = upd (gI h a) i.toNatClampNeg x := by funext j; simp [gI_sI, upd]
  rw [e1]
  rfl
theorem x_zast {i : Int32} {a : Nat} {x : Int32} (hd : decode M.cd pc = .ok (.bastore, 1)) (ht : gT h a = 12) (hi : vp_in i (gN h a)) (hv : x = 0 ∨ x = 1) (k : X w M Q QX kc ns (pc + 1) L st (sI h a i.toNatClampNeg x)) : X w M Q QX kc ns pc L (.int x :: .int i :: .ref a :: st) h := by
  intro p e s m args below meth c H locs tys ws ls C hK hP hD hE hS hB hl
  have C0 := C
  obtain ⟨hx, hb, hml, hr, hlk, hown, hts, hin, htab⟩ := C
  obtain ⟨q0, cA, t0, -, g1, g2⟩ := hE.arr (a := a) (by rw [ht]; decide)
  rw [encA_Z ht] at g1
  rw [ht] at g2
  refine va_zast (D := w.dg) hx hb hK hP hD hS q0 t0 g1 g2 hi hd (fun H1 locs1 hP1 hD1 hS1 => ?_)
  refine k p e s m args below meth c H1 locs1 tys _ ls C0 hK hP1 hD1 (hE.upd g1 (fun _ => rfl) (fun b hb e he => he.cong (h := h) (h' := sI h a i.toNatClampNeg x) rfl rfl (fun j => by rw [gI_sI, if_neg (fun z => hb z.1)]) (fun _ => rfl) (fun _ => rfl)) (Or.inr ⟨cA, t0, by show 11 ≤ gT h a; rw [ht]; decide, by show gT h a ≤ 17; rw [ht]; decide, by show tys[t0]? = some (cA, ety (gT h a)); rw [ht]; exact g2, ?_⟩)) hS1 hB hl
  rw [encA_Z (h := sI h a i.toNatClampNeg x) ht]
  have hnar : vp_nar .boolean x = x := by rcases hv with rfl | rfl <;> decide
  have e1 : gI (sI h a i.toNatClampNeg x) a = upd (gI h a) i.toNatClampNeg x := by funext j; simp [gI_sI, upd]
  rw [hnar, e1]
  rfl
theorem x_last {i : Int32} {a : Nat} {x : Int64} (hd : decode M.cd pc = .ok (.lastore, 1)) (ht : gT h a = 13) (hi : vp_in i (gN h a)) (k : X w M Q QX kc ns (pc + 1) L st (sL h a i.toNatClampNeg x)) : X w M Q QX kc ns pc L (.long x :: .int i :: .ref a :: st) h := by
  intro p e s m args below meth c H locs tys ws ls C hK hP hD hE hS hB hl
  have C0 := C
  obtain ⟨hx, hb, hml, hr, hlk, hown, hts, hin, htab⟩ := C
  obtain ⟨q0, cA, t0, -, g1, g2⟩ := hE.arr (a := a) (by rw [ht]; decide)
  rw [encA_L ht] at g1
  rw [ht] at g2
  refine va_last (D := w.dg) hx hb hK hP hD hS q0 t0 g1 g2 hi hd (fun H1 locs1 hP1 hD1 hS1 => ?_)
  refine k p e s m args below meth c H1 locs1 tys _ ls C0 hK hP1 hD1 (hE.upd g1 (fun _ => rfl) (fun b hb e he => he.cong (h := h) (h' := sL h a i.toNatClampNeg x) rfl rfl (fun _ => rfl) (fun _ => rfl) (fun j => by rw [gL_sL, if_neg (fun z => hb z.1)])) (Or.inr ⟨cA, t0, by show 11 ≤ gT h a; rw [ht]; decide, by show gT h a ≤ 17; rw [ht]; decide, by show tys[t0]? = some (cA, ety (gT h a)); rw [ht]; exact g2, ?_⟩)) hS1 hB hl
  rw [encA_L (h := sL h a i.toNatClampNeg x) ht]
  have e1 : gL (sL h a i.toNatClampNeg x) a = vp_updL (gL h a) i.toNatClampNeg x := by funext j; simp [gL_sL, vp_updL]
  rw [e1]
  rfl

theorem x_aald {i : Int32} {a : Nat} (hd : decode M.cd pc = .ok (.aaload, 1)) (ht : 14 ≤ gT h a) (hi : vp_in i (gN h a)) (k : X w M Q QX kc ns (pc + 1) L (va_rf (gR h a i.toNatClampNeg) :: st) h) : X w M Q QX kc ns pc L (.int i :: .ref a :: st) h := by
  intro p e s m args below meth c H locs tys ws ls C hK hP hD hE hS hB hl
  have C0 := C
  obtain ⟨hx, hb, hml, hr, hlk, hown, hts, hin, htab⟩ := C
  obtain ⟨q0, cA, t0, g3, g1, g2⟩ := hE.arr (a := a) (by omega)
  rw [encA_R ht] at g1
  obtain ⟨Cl, hC⟩ : ∃ Cl, ety (gT h a) = .object Cl := by
    generalize gT h a = t at ht g3
    rcases (show t = 14 ∨ t = 15 ∨ t = 16 ∨ t = 17 by omega) with rfl | rfl | rfl | rfl <;> exact ⟨_, rfl⟩
  rw [hC] at g2
  exact va_aldq (D := w.dg) hx hb hK hP q0 t0 g1 g2 hi hd (k p e s m args below meth c H locs tys ws ls C0 hK hP hD hE hS hB hl)
theorem x_aast {i : Int32} {a v ci N : Nat} {Cl : String} {T : u_T} {ty : Nat → FieldType} {ks : List Bool} (hd : decode M.cd pc = .ok (.aastore, 1)) (ht : 14 ≤ gT h a) (hci : CI ci Cl T N ty ks) (hv : gT h v = ci + 1) (hC : ety (gT h a) = .object Cl) (hi : vp_in i (gN h a)) (k : X w M Q QX kc ns (pc + 1) L st (sR h a i.toNatClampNeg (some v))) : X w M Q QX kc ns pc L (.ref v :: .int i :: .ref a :: st) h := by
  intro p e s m args below meth c H locs tys ws ls C hK hP hD hE hS hB hl
  have C0 := C
  obtain ⟨hx, hb, hml, hr, hlk, hown, hts, hin, htab⟩ := C
  obtain ⟨c1, c2, c3, c4, c5, c6, c7, c8⟩ := hci
  obtain ⟨q0, cA, t0, g3, g1, g2⟩ := hE.arr (a := a) (by omega)
  obtain ⟨qk, hqk⟩ := hE.obj hv c5 c7
  rw [encA_R ht] at g1
  have g2' := g2
  rw [hC] at g2
  refine va_astq (D := w.dg) (r := (Cl, T, N)) hx hb hK hP hD hS q0 t0 qk ci g1 g2 hqk c1 hi hd (fun H1 locs1 hP1 hD1 hS1 => ?_)
  refine k p e s m args below meth c H1 locs1 tys _ ls C0 hK hP1 hD1 (hE.upd g1 (fun _ => rfl) (fun b hb e he => he.cong (h := h) (h' := sR h a i.toNatClampNeg (some v)) rfl rfl (fun _ => rfl) (fun j => by rw [gR_sR, if_neg (fun z => hb z.1)]) (fun _ => rfl)) (Or.inr ⟨cA, t0, by show 11 ≤ gT h a; omega, g3, g2', ?_⟩)) hS1 hB hl
  rw [encA_R (h := sR h a i.toNatClampNeg (some v)) ht]
  have e1 : gR (sR h a i.toNatClampNeg (some v)) a = va_up (gR h a) i.toNatClampNeg (some v) := by funext j; simp [gR_sR, va_up]
  rw [e1]
  rfl
theorem x_alen {a : Nat} (hd : decode M.cd pc = .ok (.arraylength, 1)) (ht : 11 ≤ gT h a) (k : X w M Q QX kc ns (pc + 1) L (.int (Int32.ofNat (gN h a)) :: st) h) : X w M Q QX kc ns pc L (.ref a :: st) h := by
  intro p e s m args below meth c H locs tys ws ls C hK hP hD hE hS hB hl
  have C0 := C
  obtain ⟨hx, hb, hml, hr, hlk, hown, hts, hin, htab⟩ := C
  obtain ⟨q0, cA, t0, g3, g1, g2⟩ := hE.arr (a := a) ht
  have he : (encA h a).1 = gN h a := by unfold encA; split <;> rfl
  exact va_alen (D := w.dg) hx hb hK hP q0 t0 g1 g2 (by rw [he]) hd (k p e s m args below meth c H locs tys ws ls C0 hK hP hD hE hS hB hl)
/-- the static rows and the script: read, never written -/
theorem x_getsS {idx : Nat} (hd : decode M.cd pc = .ok (.getstatic idx, 3)) (hn : Cond.fieldLinkNest M.ow idx "Stowfinish" "SIDE_STEPS" "[I" "Stowfinish" ∈ NWl) (k : X w M Q QX kc ns (pc + 3) L (.ref w.aS :: st) h) : X w M Q QX kc ns pc L st h := by
  intro p e s m args below meth c H locs tys ws ls C hK hP hD hE hS hB hl
  have C0 := C
  obtain ⟨hx, hb, hml, hr, hlk, hown, hts, hin, htab⟩ := C
  exact va_getsN hx hb hB.2.2.2.2.1 hS hown (va_Nw.use rfl (hB.2.2.2.2.2.2.2.2.2.1 _ hn)) (fun _ z => z) hd (k p e s m args below meth c H locs tys ws ls C0 hK hP hD hE hS hB hl)
theorem x_getsH {idx : Nat} (hd : decode M.cd pc = .ok (.getstatic idx, 3)) (hn : Cond.fieldLinkNest M.ow idx "Stowfinish" "SIDE_HOLES" "[I" "Stowfinish" ∈ NWl) (k : X w M Q QX kc ns (pc + 3) L (.ref w.aH :: st) h) : X w M Q QX kc ns pc L st h := by
  intro p e s m args below meth c H locs tys ws ls C hK hP hD hE hS hB hl
  have C0 := C
  obtain ⟨hx, hb, hml, hr, hlk, hown, hts, hin, htab⟩ := C
  exact va_getsN hx hb hB.2.2.2.2.2.1 hS hown (va_Nw.use rfl (hB.2.2.2.2.2.2.2.2.2.1 _ hn)) (fun _ z => z) hd (k p e s m args below meth c H locs tys ws ls C0 hK hP hD hE hS hB hl)
theorem x_roS {i : Int32} (hd : decode M.cd pc = .ok (.iaload, 1)) (hi : vp_in i 4) (k : X w M Q QX kc ns (pc + 1) L (.int (sideS i.toNatClampNeg) :: st) h) : X w M Q QX kc ns pc L (.int i :: .ref w.aS :: st) h := by
  intro p e s m args below meth c H locs tys ws ls C hK hP hD hE hS hB hl
  have C0 := C
  obtain ⟨hx, hb, hml, hr, hlk, hown, hts, hin, htab⟩ := C
  exact va_sld hx hb hB.2.2.2.2.2.2.1.1 (Nat.lt_of_lt_of_le hB.2.2.2.2.2.2.1.2 hB.2.1) (Nat.not_le.mpr hB.2.2.2.2.2.2.1.2) hS hi hd (k p e s m args below meth c H locs tys ws ls C0 hK hP hD hE hS hB hl)
theorem x_roSlen (hd : decode M.cd pc = .ok (.arraylength, 1)) (k : X w M Q QX kc ns (pc + 1) L (.int (Int32.ofNat 4) :: st) h) : X w M Q QX kc ns pc L (.ref w.aS :: st) h := by
  intro p e s m args below meth c H locs tys ws ls C hK hP hD hE hS hB hl
  have C0 := C
  obtain ⟨hx, hb, hml, hr, hlk, hown, hts, hin, htab⟩ := C
  exact va_slen hx hb hB.2.2.2.2.2.2.1.1 (Nat.lt_of_lt_of_le hB.2.2.2.2.2.2.1.2 hB.2.1) (Nat.not_le.mpr hB.2.2.2.2.2.2.1.2) hS hd (k p e s m args below meth c H locs tys ws ls C0 hK hP hD hE hS hB hl)
theorem x_roH {i : Int32} (hd : decode M.cd pc = .ok (.iaload, 1)) (hi : vp_in i 4) (k : X w M Q QX kc ns (pc + 1) L (.int (sideH i.toNatClampNeg) :: st) h) : X w M Q QX kc ns pc L (.int i :: .ref w.aH :: st) h := by
  intro p e s m args below meth c H locs tys ws ls C hK hP hD hE hS hB hl
  have C0 := C
  obtain ⟨hx, hb, hml, hr, hlk, hown, hts, hin, htab⟩ := C
  exact va_sld hx hb hB.2.2.2.2.2.2.2.1.1 (Nat.lt_of_lt_of_le hB.2.2.2.2.2.2.2.1.2 hB.2.1) (Nat.not_le.mpr hB.2.2.2.2.2.2.2.1.2) hS hi hd (k p e s m args below meth c H locs tys ws ls C0 hK hP hD hE hS hB hl)
theorem x_roHlen (hd : decode M.cd pc = .ok (.arraylength, 1)) (k : X w M Q QX kc ns (pc + 1) L (.int (Int32.ofNat 4) :: st) h) : X w M Q QX kc ns pc L (.ref w.aH :: st) h := by
  intro p e s m args below meth c H locs tys ws ls C hK hP hD hE hS hB hl
  have C0 := C
  obtain ⟨hx, hb, hml, hr, hlk, hown, hts, hin, htab⟩ := C
  exact va_slen hx hb hB.2.2.2.2.2.2.2.1.1 (Nat.lt_of_lt_of_le hB.2.2.2.2.2.2.2.1.2 hB.2.1) (Nat.not_le.mpr hB.2.2.2.2.2.2.2.1.2) hS hd (k p e s m args below meth c H locs tys ws ls C0 hK hP hD hE hS hB hl)
theorem x_roX {i : Int32} (hd : decode M.cd pc = .ok (.iaload, 1)) (hi : vp_in i w.lX) (k : X w M Q QX kc ns (pc + 1) L (.int (w.xs i.toNatClampNeg) :: st) h) : X w M Q QX kc ns pc L (.int i :: .ref w.aX :: st) h := by
  intro p e s m args below meth c H locs tys ws ls C hK hP hD hE hS hB hl
  have C0 := C
  obtain ⟨hx, hb, hml, hr, hlk, hown, hts, hin, htab⟩ := C
  exact va_sld hx hb hB.2.2.2.2.2.2.2.2.1.1 (Nat.lt_of_lt_of_le hB.2.2.2.2.2.2.2.2.1.2 hB.2.1) (Nat.not_le.mpr hB.2.2.2.2.2.2.2.2.1.2) hS hi hd (k p e s m args below meth c H locs tys ws ls C0 hK hP hD hE hS hB hl)
theorem x_roXlen (hd : decode M.cd pc = .ok (.arraylength, 1)) (k : X w M Q QX kc ns (pc + 1) L (.int (Int32.ofNat w.lX) :: st) h) : X w M Q QX kc ns pc L (.ref w.aX :: st) h := by
  intro p e s m args below meth c H locs tys ws ls C hK hP hD hE hS hB hl
  have C0 := C
  obtain ⟨hx, hb, hml, hr, hlk, hown, hts, hin, htab⟩ := C
  exact va_slen hx hb hB.2.2.2.2.2.2.2.2.1.1 (Nat.lt_of_lt_of_le hB.2.2.2.2.2.2.2.2.1.2 hB.2.1) (Nat.not_le.mpr hB.2.2.2.2.2.2.2.2.1.2) hS hd (k p e s m args below meth c H locs tys ws ls C0 hK hP hD hE hS hB hl)

theorem x_mmax {idx : Nat} {x y : Int32} (hd : decode M.cd pc = .ok (.invokestatic idx, 3)) (hlink : Cond.methodLink M.ow idx Lib.Math.max.name ∈ TB) (hstat : Cond.static Lib.Math.max.name ∈ TB) (hini : Cond.initialized "java/lang/Math" ∈ TB) (hcode : Cond.code Lib.Math.max.name Lib.Math.max.code 2 (some .int) ∈ TB) (hf : 1 ≤ M.rm.frames) (hlo : (st.map fun v => v.category).sum + 13 ≤ M.rm.locals) (hc : kc ≤ M.rm.cells) (hs : ns ≤ M.rm.slots)
    (k : X w M Q QX kc ns (pc + 3) L (.int (if x < y then y else x) :: st) h) : X w M Q QX kc ns pc L (.int y :: .int x :: st) h := by
  intro p e s m args below meth c H locs tys ws ls C hK hP hD hE hS hB hl
  have C0 := C
  obtain ⟨hx, hb, hml, hr, hlk, hown, hts, hin, htab⟩ := C
  exact va_mmax hx hb (by rw [hml, hl.1]) hown (hts _ hlink) (hts _ hstat) (hts _ hini) (hts _ hcode) hf hlo hc hs hd (k p e s m args below meth c H locs tys ws ls C0 hK hP hD hE hS hB hl)
theorem x_mabs {idx : Nat} {x : Int32} (hd : decode M.cd pc = .ok (.invokestatic idx, 3)) (hlink : Cond.methodLink M.ow idx Lib.Math.abs.name ∈ TB) (hstat : Cond.static Lib.Math.abs.name ∈ TB) (hini : Cond.initialized "java/lang/Math" ∈ TB) (hcode : Cond.code Lib.Math.abs.name Lib.Math.abs.code 1 (some .int) ∈ TB) (hf : 1 ≤ M.rm.frames) (hlo : (st.map fun v => v.category).sum + 13 ≤ M.rm.locals) (hc : kc ≤ M.rm.cells) (hs : ns ≤ M.rm.slots)
    (k : X w M Q QX kc ns (pc + 3) L (.int (if 0 ≤ x then x else 0 - x) :: st) h) : X w M Q QX kc ns pc L (.int x :: st) h := by
  intro p e s m args below meth c H locs tys ws ls C hK hP hD hE hS hB hl
  have C0 := C
  obtain ⟨hx, hb, hml, hr, hlk, hown, hts, hin, htab⟩ := C
  exact va_mabs hx hb (by rw [hml, hl.1]) hown (hts _ hlink) (hts _ hstat) (hts _ hini) (hts _ hcode) hf hlo hc hs hd (k p e s m args below meth c H locs tys ws ls C0 hK hP hD hE hS hB hl)
theorem x_objInit {idx a : Nat} (hd : decode M.cd pc = .ok (.invokespecial idx, 3)) (hlink : Cond.methodLink M.ow idx Lib.objectInit ∈ TB) (hinst : Cond.instanceMethod Lib.objectInit ∈ TB) (hcode : Cond.code Lib.objectInit ⟨#[0xb1]⟩ 1 none ∈ TB) (hf : 1 ≤ M.rm.frames) (hlo : (st.map fun v => v.category).sum + 12 ≤ M.rm.locals)
    (k : X w M Q QX kc ns (pc + 3) L st h) : X w M Q QX kc ns pc L (.ref a :: st) h := by
  intro p e s m args below meth c H locs tys ws ls C hK hP hD hE hS hB hl
  have C0 := C
  obtain ⟨hx, hb, hml, hr, hlk, hown, hts, hin, htab⟩ := C
  refine W.objInit (g := F0 m pc ls (.ref a :: st)) hx hb hown (hts _ hlink) (hts _ hinst) (hts _ hcode) rfl (by show ls.size = _; rw [hml, hl.1]) rfl hd hf ?_ (k p e s m args below meth c H locs tys ws ls C0 hK hP hD hE hS hB hl)
  have : (F0 m pc ls (.ref a :: st)).monitorRoom = 0 := rfl
  omega
/-! ends -/
theorem x_iret {v : Int32} (hd : decode M.cd pc = .ok (.ireturn, 1)) (hrt : M.rt = some .int) (hc : kc ≤ M.rm.cells) (hs : ns ≤ M.rm.slots) (hq : Q (some (.int v)) h) : X w M Q QX kc ns pc L [.int v] h := by
  intro p e s m args below meth c H locs tys ws ls C hK hP hD hE hS hB hl
  have C0 := C
  obtain ⟨hx, hb, hml, hr, hlk, hown, hts, hin, htab⟩ := C
  refine W.widen hc hs (vx_ret ?_)
  exact W.iret hx hb (hr.trans hrt) (fun t ht hW => ⟨_, h, rfl, hq, ⟨tys, ws, va_K.moved hW.alike hK, by rw [ht]; exact hP, hD, hE⟩, hS.F ht⟩) hS.2.2 hd hlk
theorem x_zret {v : Int32} (hd : decode M.cd pc = .ok (.ireturn, 1)) (hrt : M.rt = some .boolean) (hv : v = 0 ∨ v = 1) (hc : kc ≤ M.rm.cells) (hs : ns ≤ M.rm.slots) (hq : Q (some (.int v)) h) : X w M Q QX kc ns pc L [.int v] h := by
  intro p e s m args below meth c H locs tys ws ls C hK hP hD hE hS hB hl
  have C0 := C
  obtain ⟨hx, hb, hml, hr, hlk, hown, hts, hin, htab⟩ := C
  refine W.widen hc hs (vx_ret ?_)
  exact W.zret hx hb (hr.trans hrt) (by rcases hv with rfl | rfl <;> decide) (fun t ht hW => ⟨_, h, rfl, hq, ⟨tys, ws, va_K.moved hW.alike hK, by rw [ht]; exact hP, hD, hE⟩, hS.F ht⟩) hS.2.2 hd hlk
theorem x_aret {v : Option Nat} {rt : FieldType} (hd : decode M.cd pc = .ok (.areturn, 1)) (hrt : M.rt = some rt) (hrt2 : (∃ n, rt = .object n) ∨ ∃ t, rt = .array t) (hc : kc ≤ M.rm.cells) (hs : ns ≤ M.rm.slots) (hq : Q (some (va_rf v)) h) : X w M Q QX kc ns pc L [va_rf v] h := by
  intro p e s m args below meth c H locs tys ws ls C hK hP hD hE hS hB hl
  have C0 := C
  obtain ⟨hx, hb, hml, hr, hlk, hown, hts, hin, htab⟩ := C
  refine W.widen hc hs (vx_ret ?_)
  exact W.aret hx hb (hr.trans hrt) hrt2 (by cases v with | none => exact Or.inl rfl | some a => exact Or.inr ⟨a, rfl⟩) (fun t ht hW => ⟨_, h, rfl, hq, ⟨tys, ws, va_K.moved hW.alike hK, by rw [ht]; exact hP, hD, hE⟩, hS.F ht⟩) hS.2.2 hd hlk
theorem x_vret (hd : decode M.cd pc = .ok (.return_, 1)) (hrt : M.rt = none) (hc : kc ≤ M.rm.cells) (hs : ns ≤ M.rm.slots) (hq : Q none h) : X w M Q QX kc ns pc L [] h := by
  intro p e s m args below meth c H locs tys ws ls C hK hP hD hE hS hB hl
  have C0 := C
  obtain ⟨hx, hb, hml, hr, hlk, hown, hts, hin, htab⟩ := C
  refine W.widen hc hs (vx_ret ?_)
  exact W.vret hx hb (hr.trans hrt) (fun t ht hW => ⟨_, h, rfl, hq, ⟨tys, ws, va_K.moved hW.alike hK, by rw [ht]; exact hP, hD, hE⟩, hS.F ht⟩) hS.2.2 hd hlk
end XH
end
section

/-! CONTRACTS: for these arguments, in this abstract heap, the method returns so that Q (or throws so that QX) -/
def Cn (w : W0) (y : MethodName) (M : MI) (as : List Value) (h : AH) (Q : Option Value → AH → Prop) : Prop :=
  Met w.la y (Cond.code y M.cd M.ml M.rt :: TB) M.rm (PcX w as h) (QcX w Q) M.rm.cells M.rm.slots (wA w)
def Cv (w : W0) (y : MethodName) (M : MI) (as : List Value) (h : AH) (Q : Option Value → AH → Prop) (QX : String → AH → Prop) : Prop :=
  vx_Met w.la y (Cond.code y M.cd M.ml M.rt :: TB) M.rm (PcX w as h) (QcX w Q) (XcX w QX) M.rm.cells M.rm.slots (wA w)
def Ch (w : W0) (y : MethodName) (M : MI) (as : List Value) (h : AH) (Q : Option Value → AH → Prop) : Prop :=
  Met w.la y (Cond.codeWith y M.cd M.ml M.rt M.hh :: TB) M.rm (PcX w as h) (QcX w Q) M.rm.cells M.rm.slots (wA w)
/-- a method's own facts: its code, its class, how many parameters -/
def MC (y : MethodName) (M : MI) (n : Nat) : Prop :=
  Cond.code y M.cd M.ml M.rt ∈ TB ∧ Cond.initialized y.cls ∈ TB ∧ (y.cls ≠ "java/lang/invoke/MethodHandle" ∧ y.cls ≠ "java/lang/invoke/VarHandle") ∧ (parseMethodDescriptor y.desc).map (fun d => d.parameters.length) = some n ∧ plainName y.cls = true ∧ y.cls = M.ow ∧ M.hh = [] ∧ (M.ii = true → y.name = "<init>")
def MCh (y : MethodName) (M : MI) (n : Nat) : Prop :=
  Cond.codeWith y M.cd M.ml M.rt M.hh ∈ TB ∧ Cond.initialized y.cls ∈ TB ∧ (y.cls ≠ "java/lang/invoke/MethodHandle" ∧ y.cls ≠ "java/lang/invoke/VarHandle") ∧ (parseMethodDescriptor y.desc).map (fun d => d.parameters.length) = some n ∧ plainName y.cls = true ∧ y.cls = M.ow ∧ (M.ii = true → y.name = "<init>")
/-- a callee's room within the caller's -/
def Fit (M' M : MI) : Prop := M'.rm.frames + 1 ≤ M.rm.frames ∧ 8 + (M'.ml + 11) + M'.rm.locals ≤ M.rm.locals
def LkV (own : String) (idx : Nat) (y : MethodName) : Prop := Cond.methodLink own idx y ∈ TB ∧ Cond.instanceMethod y ∈ TB ∧ Cond.selects y.cls y y ∈ TB
def LkS (own : String) (idx : Nat) (y : MethodName) : Prop := Cond.methodLink own idx y ∈ TB ∧ Cond.static y ∈ TB
def LkI (own : String) (idx : Nat) (y : MethodName) : Prop := Cond.methodLink own idx y ∈ TB ∧ Cond.instanceMethod y ∈ TB ∧ y.name = "<init>"
def LkN (own : String) (idx : Nat) (y : MethodName) : Prop := Cond.methodLinkNest own idx y y.cls ∈ NWl ∧ Cond.static y ∈ TB
theorem Met_of_vx {l : Launch} {y : MethodName} {ws : List Cond} {rm : Room} {Pc : Array Value → State → Prop} {Qc : Array Value → State → Outcome → State → Prop} {XC : String → State → State → Prop} {mc ms : Nat} {free : Addr → Prop} (H : vx_Met l y ws rm Pc Qc XC mc ms free) (hX : ∀ E st t, ¬ XC E st t) : Met l y ws rm Pc Qc mc ms free := by
  intro p e ha hc hk s m args below hf happ hP hK
  obtain ⟨n, o, h1, h2, h3, hq⟩ := H p e ha hc hk s m args below hf happ hP hK
  refine ⟨n, o, h1, h2, h3, ?_⟩
  rcases hq with hq | ⟨q, -, E, ce, L, hx, -⟩
  · exact hq
  · exact absurd hx (hX _ _ _)
theorem lg_sl_1 : ∀ (as : List Value), (∀ v ∈ as, v.category = 1) → lg_sl as = as.map Slot.val
  | [], _ => rfl
  | v :: r, h => by
    have h1 := h v List.mem_cons_self
    have ih := lg_sl_1 r (fun x hx => h x (List.mem_cons_of_mem _ hx))
    simp only [lg_sl, List.flatMap_cons, h1] at ih ⊢
    simp [ih]
theorem lv_args_1 : ∀ (as : List Value) (k i : Nat) (v : Value), (∀ v ∈ as, v.category = 1) → as[i]? = some v → (k + i, v) ∈ lv_args k as
  | [], _, _, _, _, hi => by simp at hi
  | u :: r, k, 0, v, h, hi => by
    simp at hi
    subst hi
    exact List.mem_cons_self
  | u :: r, k, i + 1, v, h, hi => by
    have h1 := h u List.mem_cons_self
    have ih := lv_args_1 r (k + 1) i v (fun x hx => h x (List.mem_cons_of_mem _ hx)) (by simpa using hi)
    simp only [lv_args, h1]
    rw [show k + (i + 1) = k + 1 + i by omega]
    exact List.mem_cons_of_mem _ ih
theorem LH_entry {as : List Value} {n : Nat} (hl : as.length ≤ n) (hcat : ∀ v ∈ as, v.category = 1) : LH ((lg_sl as ++ List.replicate (n - (lg_sl as).length) Slot.unset).toArray) n (as.map some ++ List.replicate (n - as.length) none) := by
  have e := lg_sl_1 as hcat
  have hlen : (lg_sl as).length = as.length := by rw [e, List.length_map]
  have h := lv_entry as (n := n) (by rw [hlen]; exact hl)
  refine ⟨h.1, h.2.1, by simp; omega, fun i v hi => ?_⟩
  have hiv : as[i]? = some v := by
    by_cases hil : i < as.length
    · rw [List.getElem?_append_left (by simpa using hil)] at hi
      simpa using hi
    · rw [List.getElem?_append_right (by simpa using hil)] at hi
      have := List.mem_of_getElem? hi
      simp at this
  refine ⟨hcat v (List.mem_of_getElem? hiv), ?_⟩
  have h3 := h.2.2 (0 + i, v) (lv_args_1 as 0 i v hcat hiv)
  simpa using h3
section XC
variable {w : W0} {M : MI} {Q : Option Value → AH → Prop} {QX : String → AH → Prop} {kc ns pc : Nat} {L : List (Option Value)} {st : List Value} {h : AH}
theorem Cv_of {y : MethodName} {n : Nat} {as : List Value} (hc : MC y M n) (hl : as.length ≤ M.ml) (hcat : ∀ v ∈ as, v.category = 1) (hX : X w M Q QX 0 0 0 (as.map some ++ List.replicate (M.ml - as.length) none) [] h) : Cv w y M as h Q QX := by
  obtain ⟨h1, h2, h3, h4, h5, h6, h7, h8⟩ := hc
  refine vx_ofW h5 rfl (fun p e s m args below meth c s₁ B hml htab hv => ?_)
  obtain ⟨rfl, ⟨tys, ws, hK, hP, hD, hE⟩, hB⟩ := hv
  rw [lg_entry_eq]
  have hts := atoms_spec (ws := Cond.code y M.cd M.ml M.rt :: TB) B.pre
  exact hX p e s m _ below meth c s.heap [] tys ws _ ⟨B.exec, B.bytes, hml, B.returns, B.notSynchronized, by rw [← h6]; exact findClass_of_methodNamed B.named, fun t ht => hts t (List.mem_cons_of_mem _ ht), fun hi => by rw [(name_of_methodNamed B.named B.method).1, h8 hi], by
    rw [h7]
    cases hq : c.exceptionTable.toList with
    | nil => rfl
    | cons a r => exact absurd (by rw [hq]; exact List.mem_cons_self) (htab a)⟩ hK hP hD hE va_S.rf hB (LH_entry hl hcat)
theorem Cn_of {y : MethodName} {n : Nat} {as : List Value} (hc : MC y M n) (hl : as.length ≤ M.ml) (hcat : ∀ v ∈ as, v.category = 1) (hX : X w M Q (fun _ _ => False) 0 0 0 (as.map some ++ List.replicate (M.ml - as.length) none) [] h) : Cn w y M as h Q :=
  Met_of_vx (Cv_of hc hl hcat hX) (fun E st t z => by obtain ⟨h', z, -⟩ := z; exact z)
theorem Ch_of {y : MethodName} {n : Nat} {as : List Value} (hc : MCh y M n) (hl : as.length ≤ M.ml) (hcat : ∀ v ∈ as, v.category = 1) (hX : X w M Q (fun _ _ => False) 0 0 0 (as.map some ++ List.replicate (M.ml - as.length) none) [] h) : Ch w y M as h Q := by
  obtain ⟨h1, h2, h3, h4, h5, h6, h8⟩ := hc
  refine Met_of_vx (XC := XcX w (fun _ _ => False)) (vx_ofWH h5 rfl (fun p e s m args below meth c s₁ B hml hv => ?_)) (fun E st t z => by obtain ⟨h', z, -⟩ := z; exact z)
  obtain ⟨rfl, ⟨tys, ws, hK, hP, hD, hE⟩, hB⟩ := hv
  rw [lg_entry_eq]
  have hts := atoms_spec (ws := Cond.codeWith y M.cd M.ml M.rt M.hh :: TB) B.pre
  exact hX p e s m _ below meth c s.heap [] tys ws _ ⟨B.exec, B.bytes, hml, B.returns, B.notSynchronized, by rw [← h6]; exact findClass_of_methodNamed B.named, fun t ht => hts t (List.mem_cons_of_mem _ ht), fun hi => by rw [(name_of_methodNamed B.named B.method).1, h8 hi], vx_table (x := y) B (hts _ List.mem_cons_self)⟩ hK hP hD hE va_S.rf hB (LH_entry hl hcat)
theorem Cn.mono {y : MethodName} {as : List Value} {Q' : Option Value → AH → Prop} (H : Cn w y M as h Q) (hq : ∀ v h', Q v h' → Q' v h') : Cn w y M as h Q' := by
  intro p e ha hc hk s m args below hf happ hP hK
  obtain ⟨n, o, h1, h2, h3, ⟨v, h', e1, e2, e3⟩, h5⟩ := H p e ha hc hk s m args below hf happ hP hK
  exact ⟨n, o, h1, h2, h3, ⟨v, h', e1, hq v h' e2, e3⟩, h5⟩
/-- the state behind a call, seen from the caller -/
theorem run_X {p : Program} {e : Env} {R : Room} {s : State} {m : MethodId} {args : Array Value} {below : List Frame} {meth : Method} {c : Code} {H : Heap} {locs : List Loc} {mc ms : Nat} {ls : Array Slot} {st0 rest : List Value} {Z : State → Prop} {a : Array Value} {Q' : Option Value → AH → Prop}
    (hr : va_Run p w.la e R s m args below meth c H locs kc ns mc ms (F0 m pc ls st0) rest (QcX w Q' a) (wA w)) (hS : va_S (wA w) s.heap H locs)
    (kk : ∀ (v : Option Value) (h' : AH) (H1 : Heap) (locs1 : List Loc) (tys : List (ClassId × FieldType)) (ws : va_W), Q' v h' → va_K w.dg vwCl tys s → va_P w.dg vwCl ws H1 → va_D (wA w) ws → Em tys ws h' → va_S (wA w) s.heap H1 locs1 →
      W p w.la e R s m args below meth c H1 locs1 (kc + mc) (ns + ms) Z (F0 m (pc + 3) ls (v.toList ++ rest))) : W p w.la e R s m args below meth c H locs kc ns Z (F0 m pc ls st0) := by
  intro T hT X9
  obtain ⟨v, st₀, t, T', L', h0, X', hL, e1, e2, ⟨v2, h', hv, hq, ⟨tys, ws, k1, k2, k3, k4⟩, hz, hk⟩, sts⟩ := hr T hT X9
  cases hv
  rw [h0] at hz hk
  obtain ⟨t2, a1, b1⟩ := kk v h' T'.heap (locs ++ L') tys ws hq (va_K.moved (by rw [← e2]; exact X'.warmed.alike.symm) k1) (by rw [e1]; exact k2) k3 k4
    ⟨Nat.le_trans hS.1 (by rw [e1]; exact hz), fun q h1 h2 => by rw [e1, hk q (Nat.lt_of_lt_of_le h1 hS.1) h2]; exact hS.2.1 q h1 h2, fun q hq => by
      rcases List.mem_append.mp hq with h | h
      · exact hS.2.2 q h
      · exact hL q h⟩ T' rfl X'
  exact ⟨t2, sts t2 a1, b1⟩
theorem PcX_blind {as : List Value} : FrameBlind (PcX w as h) := by
  intro a U g mk ⟨h1, ⟨tys, ws, h2, h3, h4, h5⟩, h6⟩
  exact ⟨h1, ⟨tys, ws, va_K.moved (u := U) (U := U.calling g mk a) (Vm.Alike.refl U.vm) h2, h3, h4, h5⟩, SB.to (s := U) (U := U.calling g mk a) h6 (State.WarmedH.refl U) (Nat.le_refl _) (fun _ _ _ => rfl)⟩
theorem PcX_at {s U : State} {H : Heap} {locs : List Loc} {tys : List (ClassId × FieldType)} {ws : va_W} {as : List Value} (hK : va_K w.dg vwCl tys s) (hP : va_P w.dg vwCl ws H) (hD : va_D (wA w) ws) (hE : Em tys ws h) (hS : va_S (wA w) s.heap H locs) (hB : SB w s s.heap) (hU : U.heap = H) (hW : s.WarmedH U.vm) : PcX w as h as.toArray U :=
  ⟨rfl, ⟨tys, ws, va_K.moved hW.alike hK, by rw [hU]; exact hP, hD, hE⟩, hB.to hW (by rw [hU]; exact hS.1) (fun a h1 h2 => by rw [hU]; exact hS.2.1 a h1 h2)⟩
theorem recv_X {s : State} {H : Heap} {tys : List (ClassId × FieldType)} {ws : va_W} {b ci N : Nat} {Cl : String} {T : u_T} {ty : Nat → FieldType} {ks : List Bool} (hK : va_K w.dg vwCl tys s) (hP : va_P w.dg vwCl ws H) (hE : Em tys ws h) (hci : CI ci Cl T N ty ks) (hb : gT h b = ci + 1) : ∃ cell : Cell, H[b]? = some cell ∧ cell.vm.isStatics = false ∧ s.vm.findClass Cl = some cell.cls := by
  obtain ⟨c1, -, -, -, c5, -, c7, -⟩ := hci
  obtain ⟨q0, he⟩ := hE.obj hb c5 c7
  exact va_recv hK hP c1 he
theorem CallB_of {R : Room} {s : State} {args : Array Value} {own : String} {idx n : Nat} {y : MethodName} {M' : MI} (hts : ∀ t ∈ TB, t.before args s = true) (hc : MC y M' n) (hl : Cond.methodLink own idx y ∈ TB) (hR : M'.rm.frames + 1 ≤ R.frames ∧ 8 + (M'.ml + 11) + M'.rm.locals ≤ R.locals) :
    CallB R s args own idx y M'.cd M'.ml M'.rt (Cond.code y M'.cd M'.ml M'.rt :: TB) M'.rm M'.rm.cells M'.rm.slots n := by
  obtain ⟨h1, h2, h3, h4, h5, h6, h7, h8⟩ := hc
  exact callB_of n hts (goodTB (fun t ht => (List.mem_cons.mp ht).elim (fun e => by rw [e]; exact h1) id)) rfl rfl rfl (hts _ h2) (hts _ hl) ⟨h3.1, h3.2, h4⟩ hR
theorem x_callV {idx n b ci N : Nat} {Cl : String} {T : u_T} {ty : Nat → FieldType} {ks : List Bool} {y : MethodName} {M' : MI} {as : List Value} {Q' : Option Value → AH → Prop} (hd : decode M.cd pc = .ok (.invokevirtual idx, 3)) (hlk : LkV M.ow idx y) (hc : MC y M' n) (hf : Fit M' M) (hci : CI ci y.cls T N ty ks) (hn : as.length = n) (hst : (st.map fun v => v.category).sum ≤ 8) (hcl : kc + M'.rm.cells ≤ M.rm.cells) (hsl : ns + M'.rm.slots ≤ M.rm.slots)
    (ht : gT h b = ci + 1) (hm : Cn w y M' (.ref b :: as) h Q') (k : ∀ v h', Q' v h' → X w M Q QX (kc + M'.rm.cells) (ns + M'.rm.slots) (pc + 3) L (v.toList ++ st) h') : X w M Q QX kc ns pc L (as.reverse ++ .ref b :: st) h := by
  intro p e s m args below meth c H locs tys ws ls C hK hP hD hE hS hB hl
  have C0 := C
  obtain ⟨hx, hb, hml, hr, hlock, hown, hts, hin, htab⟩ := C
  refine run_X (va_runV (As := as) (rest := st) ⟨hx, hb, hml, hown, hts⟩ hm ⟨CallB_of hts hc hlk.1 hf, hts _ hlk.2.1, hts _ hlk.2.2⟩ ⟨PcX_blind, recv_X hK hP hE hci ht, fun U hU hW => PcX_at hK hP hD hE hS hB hU hW⟩ rfl hn hl.1 rfl (lv_room hst) hd ⟨hcl, hsl⟩) hS (fun v h' H1 locs1 tys1 ws1 q1 q2 q3 q4 q5 q6 => ?_)
  exact k v h' q1 p e s m args below meth c H1 locs1 tys1 ws1 ls C0 q2 q3 q4 q5 q6 hB hl
theorem x_callS {idx n : Nat} {y : MethodName} {M' : MI} {as : List Value} {Q' : Option Value → AH → Prop} (hd : decode M.cd pc = .ok (.invokestatic idx, 3)) (hlk : LkS M.ow idx y) (hc : MC y M' n) (hf : Fit M' M) (hn : as.length = n) (hst : (st.map fun v => v.category).sum ≤ 8) (hcl : kc + M'.rm.cells ≤ M.rm.cells) (hsl : ns + M'.rm.slots ≤ M.rm.slots)
    (hm : Cn w y M' as h Q') (k : ∀ v h', Q' v h' → X w M Q QX (kc + M'.rm.cells) (ns + M'.rm.slots) (pc + 3) L (v.toList ++ st) h') : X w M Q QX kc ns pc L (as.reverse ++ st) h := by
  intro p e s m args below meth c H locs tys ws ls C hK hP hD hE hS hB hl
  have C0 := C
  obtain ⟨hx, hb, hml, hr, hlock, hown, hts, hin, htab⟩ := C
  refine run_X (va_runS (As := as) (rest := st) ⟨hx, hb, hml, hown, hts⟩ hm ⟨CallB_of hts hc hlk.1 hf, hts _ hlk.2⟩ ⟨PcX_blind, fun U hU hW => PcX_at hK hP hD hE hS hB hU hW⟩ rfl hn hl.1 rfl (lv_room hst) hd ⟨hcl, hsl⟩) hS (fun v h' H1 locs1 tys1 ws1 q1 q2 q3 q4 q5 q6 => ?_)
  exact k v h' q1 p e s m args below meth c H1 locs1 tys1 ws1 ls C0 q2 q3 q4 q5 q6 hB hl
theorem x_callI {idx n b : Nat} {y : MethodName} {M' : MI} {as : List Value} {Q' : Option Value → AH → Prop} (hd : decode M.cd pc = .ok (.invokespecial idx, 3)) (hlk : LkI M.ow idx y) (hc : MC y M' n) (hrt : M'.rt = none) (hf : Fit M' M) (hn : as.length = n) (hst : (st.map fun v => v.category).sum ≤ 8) (hcl : kc + M'.rm.cells ≤ M.rm.cells) (hsl : ns + M'.rm.slots ≤ M.rm.slots)
    (hm : Cn w y M' (.ref b :: as) h Q') (k : ∀ v h', Q' v h' → X w M Q QX (kc + M'.rm.cells) (ns + M'.rm.slots) (pc + 3) L (v.toList ++ st) h') : X w M Q QX kc ns pc L (as.reverse ++ .ref b :: st) h := by
  intro p e s m args below meth c H locs tys ws ls C hK hP hD hE hS hB hl
  have C0 := C
  obtain ⟨hx, hb, hml, hr, hlock, hown, hts, hin, htab⟩ := C
  have hcb := CallB_of (R := M.rm) hts hc hlk.1 hf
  unfold Cn at hm
  rw [hrt] at hcb hm
  refine run_X (va_runI (As := as) (rest := st) ⟨hx, hb, hml, hown, hts⟩ hm ⟨hcb, hlk.2.2, hts _ hlk.2.1⟩ ⟨PcX_blind, fun U hU hW => PcX_at hK hP hD hE hS hB hU hW⟩ rfl hn hl.1 rfl (lv_room hst) hd ⟨hcl, hsl⟩) hS (fun v h' H1 locs1 tys1 ws1 q1 q2 q3 q4 q5 q6 => ?_)
  exact k v h' q1 p e s m args below meth c H1 locs1 tys1 ws1 ls C0 q2 q3 q4 q5 q6 hB hl
theorem x_callN {idx n : Nat} {y : MethodName} {M' : MI} {as : List Value} {Q' : Option Value → AH → Prop} (hd : decode M.cd pc = .ok (.invokestatic idx, 3)) (hlk : LkN M.ow idx y) (hc : MC y M' n) (hf : Fit M' M) (hn : as.length = n) (hst : (st.map fun v => v.category).sum ≤ 8) (hcl : kc + M'.rm.cells ≤ M.rm.cells) (hsl : ns + M'.rm.slots ≤ M.rm.slots)
    (hm : Cn w y M' as h Q') (k : ∀ v h', Q' v h' → X w M Q QX (kc + M'.rm.cells) (ns + M'.rm.slots) (pc + 3) L (v.toList ++ st) h') : X w M Q QX kc ns pc L (as.reverse ++ st) h := by
  intro p e s m args below meth c H locs tys ws ls C hK hP hD hE hS hB hl
  have C0 := C
  obtain ⟨hx, hb, hml, hr, hlock, hown, hts, hin, htab⟩ := C
  obtain ⟨h1, h2, h3, h4, h5, h6, h7, h8⟩ := hc
  have hcn : va_CN M.rm s args M.ow idx y y.cls M'.cd M'.ml M'.rt (Cond.code y M'.cd M'.ml M'.rt :: TB) M'.rm M'.rm.cells M'.rm.slots n := va_cnB n hts (goodTB (fun t ht => (List.mem_cons.mp ht).elim (fun e => by rw [e]; exact h1) id)) rfl rfl rfl (hB.2.2.2.2.2.2.2.2.2.1 _ hlk.1) (hts _ h2) ⟨h3.1, h3.2, h4⟩ hf
  refine run_X (va_runSN (As := as) (rest := st) ⟨hx, hb, hml, hown, hts⟩ hm ⟨hcn, hts _ hlk.2, trivial⟩ ⟨PcX_blind, fun U hU hW => PcX_at hK hP hD hE hS hB hU hW⟩ rfl hn hl.1 rfl (lv_room hst) hd ⟨hcl, hsl⟩) hS (fun v h' H1 locs1 tys1 ws1 q1 q2 q3 q4 q5 q6 => ?_)
  exact k v h' q1 p e s m args below meth c H1 locs1 tys1 ws1 ls C0 q2 q3 q4 q5 q6 hB hl
/-- a static call of a method with handlers of its own -/
theorem x_callH {idx n : Nat} {y : MethodName} {M' : MI} {as : List Value} {Q' : Option Value → AH → Prop} (hd : decode M.cd pc = .ok (.invokestatic idx, 3)) (hlk : LkS M.ow idx y) (hc : MCh y M' n) (hf : Fit M' M) (hn : as.length = n) (hst : (st.map fun v => v.category).sum ≤ 8) (hcl : kc + M'.rm.cells ≤ M.rm.cells) (hsl : ns + M'.rm.slots ≤ M.rm.slots)
    (hm : Ch w y M' as h Q') (k : ∀ v h', Q' v h' → X w M Q QX (kc + M'.rm.cells) (ns + M'.rm.slots) (pc + 3) L (v.toList ++ st) h') : X w M Q QX kc ns pc L (as.reverse ++ st) h := by
  intro p e s m args below meth c H locs tys ws ls C hK hP hD hE hS hB hl
  have C0 := C
  obtain ⟨hx, hb, hml, hr, hlock, hown, hts, hin, htab⟩ := C
  obtain ⟨h1, h2, h3, h4, h5, h6, h8⟩ := hc
  have hg : GoodIn TB (va_wsS M.ow idx y (Cond.codeWith y M'.cd M'.ml M'.rt M'.hh :: TB)) := goodTB (fun t ht => by
    rcases List.mem_append.mp ht with ht | ht
    · simp only [List.mem_cons, List.not_mem_nil, or_false] at ht
      rcases ht with rfl | rfl | rfl
      · exact hlk.1
      · exact hlk.2
      · exact h2
    · exact (List.mem_cons.mp ht).elim (fun e => by rw [e]; exact h1) id)
  refine run_X (vx_runSW (hh := M'.hh) (As := as) (rest := st) ⟨hx, hb, hml, hown, hts⟩ hm (vx_cwSW n hts hg rfl rfl rfl ⟨h3.1, h3.2, h4⟩ hf) ⟨PcX_blind, fun U hU hW => PcX_at hK hP hD hE hS hB hU hW⟩ rfl hn hl.1 rfl (lv_room hst) hd ⟨hcl, hsl⟩) hS (fun v h' H1 locs1 tys1 ws1 q1 q2 q3 q4 q5 q6 => ?_)
  exact k v h' q1 p e s m args below meth c H1 locs1 tys1 ws1 ls C0 q2 q3 q4 q5 q6 hB hl
/-- where a throw of E at pc is caught -/
def HDL (M : MI) (E : String) (pc tgt : Nat) : Prop := ∃ (pre : List ExceptionTableEntry) (x : ExceptionTableEntry) (suf : List ExceptionTableEntry) (name : String), tableOf M.hh = pre ++ x :: suf ∧
  (∀ z ∈ pre, covers z pc = false ∨ (z.catchType ≠ 0 ∧ ∃ nm : String, Cond.classLink M.ow z.catchType nm ∈ TB ∧ (E, nm) ∈ NCl)) ∧ covers x pc = true ∧ x.catchType ≠ 0 ∧ Cond.classLink M.ow x.catchType name ∈ TB ∧ Cond.castable E name ∈ NWl ∧ x.handlerPc = tgt
theorem x_callX {idx n b ci N : Nat} {Cl : String} {T : u_T} {ty : Nat → FieldType} {ks : List Bool} {y : MethodName} {M' : MI} {as : List Value} {Q' : Option Value → AH → Prop} {QX' : String → AH → Prop} (hd : decode M.cd pc = .ok (.invokevirtual idx, 3)) (hlk : LkV M.ow idx y) (hc : MC y M' n) (hf : Fit M' M) (hci : CI ci y.cls T N ty ks) (hn : as.length = n) (hst : (st.map fun v => v.category).sum ≤ 8) (hcl : kc + M'.rm.cells ≤ M.rm.cells) (hsl : ns + M'.rm.slots ≤ M.rm.slots)
    (ht : gT h b = ci + 1) (hm : Cv w y M' (.ref b :: as) h Q' QX') (k : ∀ v h', Q' v h' → X w M Q QX (kc + M'.rm.cells) (ns + M'.rm.slots) (pc + 3) L (v.toList ++ st) h')
    (kx : ∀ E h', QX' E h' → ∃ tgt, HDL M E pc tgt ∧ ∀ q, X w M Q QX (kc + M'.rm.cells) (ns + M'.rm.slots) tgt L [.ref q] h') : X w M Q QX kc ns pc L (as.reverse ++ .ref b :: st) h := by
  intro p e s m args below meth c H locs tys ws ls C hK hP hD hE hS hB hl
  have C0 := C
  obtain ⟨hx, hb, hml, hr, hlock, hown, hts, hin, htab⟩ := C
  have hr0 := vx_runV (l := w.la) (p := p) (e := e) (below := below) (meth := meth) (locs := locs) (cells := kc) (slots := ns) (g := F0 m pc ls (as.reverse ++ .ref b :: st)) (As := as) (rest := st) ⟨hx, hb, hml, hown, hts⟩ hm ⟨CallB_of (R := M.rm) hts hc hlk.1 hf, hts _ hlk.2.1, hts _ hlk.2.2⟩ ⟨PcX_blind, recv_X hK hP hE hci ht, fun U hU hW => PcX_at hK hP hD hE hS hB hU hW⟩ rfl hn hl.1 rfl (lv_room hst) hd ⟨hcl, hsl⟩
  intro T hT X9
  rcases hr0 T hT X9 with ⟨v, st₀, t, T', L', h0, X', hL, e1, e2, ⟨v2, h', hv, hq, ⟨tys1, ws1, k1, k2, k3, k4⟩, hz, hk⟩, sts⟩ | ⟨q, st₀, t, T', L', E, ce, h0, X', hL, e1, e2, ⟨h', hq, ⟨tys1, ws1, k1, k2, k3, k4⟩, hz, hk⟩, hce, hcv, hcl1, sts⟩
  · cases hv
    rw [h0] at hz hk
    have hS1 : va_S (wA w) s.heap T'.heap (locs ++ L') := ⟨Nat.le_trans hS.1 (by rw [e1]; exact hz), fun q h1 h2 => by rw [e1, hk q (Nat.lt_of_lt_of_le h1 hS.1) h2]; exact hS.2.1 q h1 h2, fun q hq => by
      rcases List.mem_append.mp hq with h | h
      · exact hS.2.2 q h
      · exact hL q h⟩
    obtain ⟨t2, a1, b1⟩ := k v h' hq p e s m args below meth c T'.heap (locs ++ L') tys1 ws1 ls C0 (va_K.moved (by rw [← e2]; exact X'.warmed.alike.symm) k1) (by rw [e1]; exact k2) k3 k4 hS1 hB hl T' rfl X'
    exact ⟨t2, sts t2 a1, b1⟩
  · rw [h0] at hz hk
    have hS1 : va_S (wA w) s.heap T'.heap (locs ++ L') := ⟨Nat.le_trans hS.1 (by rw [e1]; exact hz), fun q h1 h2 => by rw [e1, hk q (Nat.lt_of_lt_of_le h1 hS.1) h2]; exact hS.2.1 q h1 h2, fun q hq => by
      rcases List.mem_append.mp hq with h | h
      · exact hS.2.2 q h
      · exact hL q h⟩
    obtain ⟨tgt, ⟨pre, x, suf, name, g1, g2, g3, g4, g5, g6, g7⟩, kX⟩ := kx E h' hq
    have w1 := kX q p e s m args below meth c T'.heap (locs ++ L') tys1 ws1 ls C0 (va_K.moved (by rw [← e2]; exact X'.warmed.alike.symm) k1) (by rw [e1]; exact k2) k3 k4 hS1 hB hl
    rw [← g7] at w1
    have w2 := vx_catch (rest := st) (ce := ce) hown pre x suf (by rw [htab]; exact g1) (fun z hz => (g2 z hz).imp id (fun z1 => ⟨z1.1, by obtain ⟨nm, z2, z3⟩ := z1.2; exact ⟨nm, hts _ z2, hB.2.2.2.2.2.2.2.2.2.2.2.1 _ z3⟩⟩)) g3 g4 (hts _ g5) (va_Nw.use rfl (hB.2.2.2.2.2.2.2.2.2.1 _ g6)) (by rw [e1]; exact hce) hcv hcl1 w1
    obtain ⟨t2, a1, b1⟩ := w2 T' rfl X'
    exact ⟨t2, sts.trans a1, b1⟩
def exN : List String := ["java/lang/RuntimeException", "java/lang/Exception"]
/-- what a 'throw new E(text)' needs of the tables -/
def TH (own cls : String) (ik is ic : Nat) : Prop :=
  Bundle.fit cls = true ∧ Cond.classLink own ik cls ∈ TB ∧ Cond.initialized cls ∈ TB ∧ (∃ text, (own, is, text) ∈ STl) ∧ (∀ t ∈ vx_atS own ic cls exN, t ∈ TB ∨ t ∈ NWl) ∧ (∀ t ∈ Cond.classLink own ik cls :: Cond.initialized cls :: vx_atS own ic cls exN, vx_ot t = true)
theorem NWl_onT : ∀ c ∈ NWl, c.onTables = true := by decide +kernel
theorem x_throw {cls : String} {ik is ic : Nat} (d0 : decode M.cd pc = .ok (.new ik, 3)) (d3 : decode M.cd (pc + 3) = .ok (.dup, 1)) (d4 : decode M.cd (pc + 4) = .ok (.ldc is, 2)) (d6 : decode M.cd (pc + 6) = .ok (.invokespecial ic, 3)) (d9 : decode M.cd (pc + 9) = .ok (.athrow, 1)) (hth : TH M.ow cls ik is ic)
    (hh : M.hh = []) (hf : 5 < M.rm.frames) (hlo : (st.map fun v => v.category).sum + 82 ≤ M.rm.locals) (hc : kc + 1 ≤ M.rm.cells) (hs : ns + 6 ≤ M.rm.slots) (hq : QX cls h) : X w M Q QX kc ns pc L st h := by
  intro p e s m args below meth c H locs tys ws ls C hK hP hD hE hS hB hl
  have C0 := C
  obtain ⟨hx, hb, hml, hr, hlock, hown, hts, hin, htab⟩ := C
  obtain ⟨g1, g2, g3, ⟨text, g4⟩, g5, g6⟩ := hth
  obtain ⟨sa, hsa⟩ := hB.2.2.2.2.2.2.2.2.2.2.1 _ g4
  exact vx_throwS (names := exN) (own := M.ow) (ik := ik) (ic := ic) (text := text) hx hb hB.1 hown g1 (by decide +kernel) (hts _ g2) (hts _ g3) hsa (fun t ht => (g5 t ht).elim (hts t) (fun z => va_Nw.use (NWl_onT t z) (hB.2.2.2.2.2.2.2.2.2.1 t z))) g6 hB.2.2.1 hB.2.2.2.1 hS (by rw [hml, hl.1]) d0 d3 d4 d6 d9 (fun x hx2 => by rw [htab, hh] at hx2; cases hx2)
    hf hlo hc hs hlock (fun t ht hz hk => ⟨h, hq, ⟨tys, ws, va_K.moved ht hK, hP.kept (fun k q hk2 => hk q.1 ((hP k q hk2).lt)), hD, hE⟩, Nat.le_trans hS.1 hz, fun q h1 h2 => by rw [hk q (Nat.lt_of_lt_of_le h1 hS.1)]; exact hS.2.1 q h1 h2⟩) hS.2.2 hc hs
end XC
end


/-! THE EVALUATOR: runs straight code by unfolding; stops (as X) at calls, makings, switches, throws and where it is told to -/
abbrev CE : Type := Instr × Nat × Nat × Nat × Nat × Int32
theorem ma_c_min : Cond.code Lib.Math.min.name Lib.Math.min.code 2 (some .int) ∈ TB := inT 189 (by decide +kernel) rfl
theorem ma_s_min : Cond.static Lib.Math.min.name ∈ TB := inT 188 (by decide +kernel) rfl
def lget : List (Option Value) → Nat → (Value → Prop) → Prop
  | [], _, _ => False
  | some v :: _, 0, K => K v
  | none :: _, 0, _ => False
  | _ :: r, i + 1, K => lget r i K
def lput : List (Option Value) → Nat → Value → (List (Option Value) → Prop) → Prop
  | [], _, _, _ => False
  | _ :: r, 0, v, K => K (some v :: r)
  | x :: r, i + 1, v, K => lput r i v (fun r' => K (x :: r'))
theorem lget_ok : ∀ (L : List (Option Value)) (i : Nat) (K : Value → Prop), lget L i K → ∃ v, L[i]? = some (some v) ∧ K v
  | [], _, _, h => h.elim
  | some v :: _, 0, _, h => ⟨v, rfl, h⟩
  | none :: _, 0, _, h => h.elim
  | some _ :: r, i + 1, K, h => by
    obtain ⟨v, h1, h2⟩ := lget_ok r i K h
    exact ⟨v, by simpa using h1, h2⟩
  | none :: r, i + 1, K, h => by
    obtain ⟨v, h1, h2⟩ := lget_ok r i K h
    exact ⟨v, by simpa using h1, h2⟩
theorem lput_ok : ∀ (L : List (Option Value)) (i : Nat) (v : Value) (K : List (Option Value) → Prop), lput L i v K → i < L.length ∧ K (L.set i (some v))
  | [], _, _, _, h => h.elim
  | _ :: r, 0, v, K, h => ⟨by simp, h⟩
  | x :: r, i + 1, v, K, h => by
    obtain ⟨h1, h2⟩ := lput_ok r i v (fun r' => K (x :: r')) h
    exact ⟨by simpa using h1, h2⟩
def rfK (r : Option Nat) (K : Value → Prop) : Prop := ∃ r', r = r' ∧ K (va_rf r')
/-- one instruction: 'R' goes on -/
def step (w : W0) (M : MI) (Q : Option Value → AH → Prop) (QX : String → AH → Prop) (R : Nat → List (Option Value) → List Value → AH → Prop) (kc ns pc : Nat) (L : List (Option Value)) (st : List Value) (h : AH) (e : CE) : Prop :=
  match e with
  | (ins, nx, a, b, d, c) => match ins with
    | .iconst n => R nx L (.int c :: st) h
    | .bipush n => R nx L (.int c :: st) h
    | .sipush n => R nx L (.int c :: st) h
    | .aconst_null => R nx L (.null :: st) h
    | .iload_n i => lget L i.val (fun v => match v with | .int x => R nx L (.int x :: st) h | _ => False)
    | .iload i => lget L i (fun v => match v with | .int x => R nx L (.int x :: st) h | _ => False)
    | .aload_n i => lget L i.val (fun v => match v with | .ref x => R nx L (.ref x :: st) h | .null => R nx L (.null :: st) h | _ => False)
    | .aload i => lget L i (fun v => match v with | .ref x => R nx L (.ref x :: st) h | .null => R nx L (.null :: st) h | _ => False)
    | .istore_n i => match st with | .int x :: st' => lput L i.val (.int x) (fun L' => R nx L' st' h) | _ => False
    | .istore i => match st with | .int x :: st' => lput L i (.int x) (fun L' => R nx L' st' h) | _ => False
    | .astore_n i => match st with | .ref x :: st' => lput L i.val (.ref x) (fun L' => R nx L' st' h) | .null :: st' => lput L i.val .null (fun L' => R nx L' st' h) | _ => False
    | .astore i => match st with | .ref x :: st' => lput L i (.ref x) (fun L' => R nx L' st' h) | .null :: st' => lput L i .null (fun L' => R nx L' st' h) | _ => False
    | .iinc i n => lget L i (fun v => match v with | .int x => lput L i (.int (x + c)) (fun L' => R nx L' st h) | _ => False)
    | .iadd => match st with | .int y :: .int x :: st' => R nx L (.int (x + y) :: st') h | _ => False
    | .isub => match st with | .int y :: .int x :: st' => R nx L (.int (x - y) :: st') h | _ => False
    | .imul => match st with | .int y :: .int x :: st' => R nx L (.int (x * y) :: st') h | _ => False
    | .iand => match st with | .int y :: .int x :: st' => R nx L (.int (x &&& y) :: st') h | _ => False
    | .ior => match st with | .int y :: .int x :: st' => R nx L (.int (x ||| y) :: st') h | _ => False
    | .iushr => match st with | .int y :: .int x :: st' => R nx L (.int ((x.toUInt32 >>> (y.toUInt32 &&& Int32.toUInt32 31)).toInt32) :: st') h | _ => False
    | .ishr => match st with | .int y :: .int x :: st' => R nx L (.int (x >>> (y &&& 31)) :: st') h | _ => False
    | .idiv => match st with | .int y :: .int x :: st' => (¬ y = 0) ∧ R nx L (.int (x / y) :: st') h | _ => False
    | .irem => match st with | .int y :: .int x :: st' => (¬ y = 0) ∧ R nx L (.int (x - x / y * y) :: st') h | _ => False
    | .ineg => match st with | .int x :: st' => R nx L (.int (-x) :: st') h | _ => False
    | .i2l => match st with | .int x :: st' => R nx L (.long x.toInt64 :: st') h | _ => False
    | .lcmp => match st with | .long y :: .long x :: st' => R nx L (.int (lg_cmp x y) :: st') h | _ => False
    | .dup => match st with | .int x :: st' => R nx L (.int x :: .int x :: st') h | .ref x :: st' => R nx L (.ref x :: .ref x :: st') h | _ => False
    | .dup2 => match st with | .int x :: .ref y :: st' => R nx L (.int x :: .ref y :: .int x :: .ref y :: st') h | _ => False
    | .pop => match st with | .int x :: st' => R nx L st' h | _ => False
    | .if_icmp cn off => match st with | .int y :: .int x :: st' => (match cn with | .eq => (x = y → R a L st' h) ∧ (¬ x = y → R nx L st' h) | .ne => (¬ x = y → R a L st' h) ∧ (x = y → R nx L st' h) | .lt => (x < y → R a L st' h) ∧ (¬ x < y → R nx L st' h) | .ge => (y ≤ x → R a L st' h) ∧ (¬ y ≤ x → R nx L st' h) | .gt => (y < x → R a L st' h) ∧ (¬ y < x → R nx L st' h) | .le => (x ≤ y → R a L st' h) ∧ (¬ x ≤ y → R nx L st' h)) | _ => False
    | .ifCond cn off => match st with | .int x :: st' => (match cn with | .eq => (x = 0 → R a L st' h) ∧ (¬ x = 0 → R nx L st' h) | .ne => (¬ x = 0 → R a L st' h) ∧ (x = 0 → R nx L st' h) | .lt => (x < 0 → R a L st' h) ∧ (¬ x < 0 → R nx L st' h) | .ge => (0 ≤ x → R a L st' h) ∧ (¬ 0 ≤ x → R nx L st' h) | .gt => (0 < x → R a L st' h) ∧ (¬ 0 < x → R nx L st' h) | .le => (x ≤ 0 → R a L st' h) ∧ (¬ x ≤ 0 → R nx L st' h)) | _ => False
    | .if_acmp cn off => match st with | .ref y :: .ref x :: st' => (match cn with | .ne => (¬ x = y → R a L st' h) ∧ (x = y → R nx L st' h) | _ => False) | _ => False
    | .goto off => R a L st h
    | .ifnull off => match st with | .ref _ :: st' => R nx L st' h | .null :: st' => R a L st' h | _ => False
    | .ifnonnull off => match st with | .ref _ :: st' => R a L st' h | .null :: st' => R nx L st' h | _ => False
    | .getfield idx => match st with | .ref o :: st' => gT h o = a + 1 ∧ (match d with | 0 => R nx L (.int (gI h o b) :: st') h | 1 => rfK (gR h o b) (fun v => R nx L (v :: st') h) | _ => False) | _ => False
    | .putfield idx => match d with | 0 => (match st with | .int v :: .ref o :: st' => gT h o = a + 1 ∧ R nx L st' (sI h o b v) | _ => False) | 1 => (match st with | .int v :: .ref o :: st' => (gT h o = a + 1 ∧ (v = 0 ∨ v = 1)) ∧ R nx L st' (sI h o b v) | _ => False) | 2 => (match st with | .ref v :: .ref o :: st' => gT h o = a + 1 ∧ R nx L st' (sR h o b (some v)) | .null :: .ref o :: st' => gT h o = a + 1 ∧ R nx L st' (sR h o b none) | _ => False) | 3 => (match st with | .int v :: .ref o :: st' => gT h o = a + 1 ∧ R nx L st' (sI h o b v) | _ => False) | 4 => (match st with | .ref v :: .ref o :: st' => gT h o = a + 1 ∧ R nx L st' (sR h o b (some v)) | _ => False) | 5 => (match st with | .ref v :: .ref o :: st' => gT h o = a + 1 ∧ R nx L st' (sR h o b (some v)) | _ => False) | _ => False
    | .iaload => match st with | .int i :: .ref o :: st' => (gT h o = 11 ∧ vp_in i (gN h o)) ∧ R nx L (.int (gI h o i.toNatClampNeg) :: st') h | _ => False
    | .baload => match st with | .int i :: .ref o :: st' => (gT h o = 12 ∧ vp_in i (gN h o)) ∧ R nx L (.int (gI h o i.toNatClampNeg) :: st') h | _ => False
    | .laload => match st with | .int i :: .ref o :: st' => (gT h o = 13 ∧ vp_in i (gN h o)) ∧ R nx L (.long (gL h o i.toNatClampNeg) :: st') h | _ => False
    | .iastore => match st with | .int x :: .int i :: .ref o :: st' => (gT h o = 11 ∧ vp_in i (gN h o)) ∧ R nx L st' (sI h o i.toNatClampNeg x) | _ => False
    | .lastore => match st with | .long x :: .int i :: .ref o :: st' => (gT h o = 13 ∧ vp_in i (gN h o)) ∧ R nx L st' (sL h o i.toNatClampNeg x) | _ => False
    | .bastore => match st with | .int x :: .int i :: .ref o :: st' => (gT h o = 12 ∧ vp_in i (gN h o) ∧ (x = 0 ∨ x = 1)) ∧ R nx L st' (sI h o i.toNatClampNeg x) | _ => False
    | .aaload => match st with | .int i :: .ref o :: st' => (14 ≤ gT h o ∧ vp_in i (gN h o)) ∧ rfK (gR h o i.toNatClampNeg) (fun v => R nx L (v :: st') h) | _ => False
    | .arraylength => match st with | .ref o :: st' => 11 ≤ gT h o ∧ R nx L (.int (Int32.ofNat (gN h o)) :: st') h | _ => False
    | .ireturn => match st with | [.int v] => (kc ≤ M.rm.cells ∧ ns ≤ M.rm.slots) ∧ (match M.rt with | some .int => Q (some (.int v)) h | some .boolean => (v = 0 ∨ v = 1) ∧ Q (some (.int v)) h | _ => False) | _ => False
    | .areturn => match st with | [.ref v] => (kc ≤ M.rm.cells ∧ ns ≤ M.rm.slots) ∧ (match M.rt with | some (.object _) => Q (some (.ref v)) h | some (.array _) => Q (some (.ref v)) h | _ => False) | [.null] => (kc ≤ M.rm.cells ∧ ns ≤ M.rm.slots) ∧ (match M.rt with | some (.object _) => Q (some .null) h | some (.array _) => Q (some .null) h | _ => False) | _ => False
    | .return_ => match st with | [] => (kc ≤ M.rm.cells ∧ ns ≤ M.rm.slots) ∧ (match M.rt with | none => Q none h | _ => False) | _ => False
    | _ => X w M Q QX kc ns pc L st h
def run (w : W0) (M : MI) (Q : Option Value → AH → Prop) (QX : String → AH → Prop) (t : Nat → CE) (cut : Nat → Bool) : Nat → Nat → Nat → Nat → List (Option Value) → List Value → AH → Prop
  | 0, kc, ns, pc, L, st, h => X w M Q QX kc ns pc L st h
  | n + 1, kc, ns, pc, L, st, h => cond (cut pc) (X w M Q QX kc ns pc L st h) (step w M Q QX (fun pc L st h => run w M Q QX t cut n kc ns pc L st h) kc ns pc L st h (t pc))
def ilen : Instr → Nat
  | .bipush _ => 2
  | .sipush _ => 3
  | .iload _ => 2
  | .aload _ => 2
  | .istore _ => 2
  | .astore _ => 2
  | .iinc _ _ => 3
  | .ifCond _ _ => 3
  | .if_icmp _ _ => 3
  | .if_acmp _ _ => 3
  | .goto _ => 3
  | .ifnull _ => 3
  | .ifnonnull _ => 3
  | .getfield _ => 3
  | .putfield _ => 3
  | _ => 1
/-- the instructions that the evaluator knows -/
def known : Instr → Bool
  | .iconst _ => true
  | .bipush _ => true
  | .sipush _ => true
  | .aconst_null => true
  | .iload_n _ => true
  | .iload _ => true
  | .aload_n _ => true
  | .aload _ => true
  | .istore_n _ => true
  | .istore _ => true
  | .astore_n _ => true
  | .astore _ => true
  | .iinc _ _ => true
  | .iadd => true
  | .isub => true
  | .imul => true
  | .iand => true
  | .ior => true
  | .iushr => true
  | .ishr => true
  | .idiv => true
  | .irem => true
  | .ineg => true
  | .i2l => true
  | .lcmp => true
  | .dup => true
  | .dup2 => true
  | .pop => true
  | .if_icmp _ _ => true
  | .ifCond _ _ => true
  | .if_acmp _ _ => true
  | .goto _ => true
  | .ifnull _ => true
  | .ifnonnull _ => true
  | .getfield _ => true
  | .putfield _ => true
  | .iaload => true
  | .baload => true
  | .laload => true
  | .iastore => true
  | .lastore => true
  | .bastore => true
  | .aaload => true
  | .arraylength => true
  | .ireturn => true
  | .areturn => true
  | .return_ => true
  | _ => false
def PF (own : String) (idx ci k d : Nat) : Prop := match d with
  | 0 => FP own idx ci k false .int ∧ (clsL.getD ci [])[k]? = some false
  | 1 => FP own idx ci k false .boolean ∧ (clsL.getD ci [])[k]? = some false
  | 2 => (∃ Cl, FP own idx ci k false (.object Cl)) ∧ (clsL.getD ci [])[k]? = some true
  | 3 => FP own idx ci k true .int ∧ (clsL.getD ci [])[k]? = some false
  | 4 => (∃ Cl, FP own idx ci k true (.object Cl)) ∧ (clsL.getD ci [])[k]? = some true
  | 5 => (∃ Ta, FP own idx ci k true (.array Ta)) ∧ (clsL.getD ci [])[k]? = some true
  | _ => False
/-- a row of the table is right -/
def eok (cd : ByteArray) (ii : Bool) (gl : List (Nat × Nat × Nat)) (pl : List (Nat × Nat × Nat × Nat)) (pc : Nat) (e : CE) : Bool :=
  match e with
  | (ins, nx, a, b, d, c) => !(known ins) || (decide (decode cd pc = .ok (ins, ilen ins)) && decide (nx = pc + ilen ins) && (match ins with
    | .iconst n => decide (Int32.ofInt n = c)
    | .bipush n => decide ((Int8.ofInt n).toInt32 = c)
    | .sipush n => decide ((Int16.ofInt n).toInt32 = c)
    | .iinc _ n => decide (Int32.ofInt n = c)
    | .ifCond _ off => decide ((pc : Int) + off = (a : Int))
    | .if_icmp _ off => decide ((pc : Int) + off = (a : Int))
    | .if_acmp _ off => decide ((pc : Int) + off = (a : Int))
    | .goto off => decide ((pc : Int) + off = (a : Int))
    | .ifnull off => decide ((pc : Int) + off = (a : Int))
    | .ifnonnull off => decide ((pc : Int) + off = (a : Int))
    | .getfield idx => decide ((idx, a, b) ∈ gl) && decide ((clsL.getD a [])[b]? = some (decide (d = 1)))
    | .putfield idx => decide ((idx, a, b, d) ∈ pl) && (decide (d < 3) || ii)
    | _ => true))
/-- a table is right for a method -/
def RK (M : MI) (t : Nat → CE) : Prop := ∃ (gl : List (Nat × Nat × Nat)) (pl : List (Nat × Nat × Nat × Nat)) (N : Nat), (∀ g ∈ gl, FG M.ow g.1 g.2.1 g.2.2) ∧ (∀ g ∈ pl, PF M.ow g.1 g.2.1 g.2.2.1 g.2.2.2) ∧ (∀ pc, pc < N → eok M.cd M.ii gl pl pc (t pc) = true) ∧ ∀ pc, N ≤ pc → (t pc).1 = .nop
theorem RK.at {M : MI} {t : Nat → CE} (H : RK M t) (pc : Nat) : ∃ (gl : List (Nat × Nat × Nat)) (pl : List (Nat × Nat × Nat × Nat)), (∀ g ∈ gl, FG M.ow g.1 g.2.1 g.2.2) ∧ (∀ g ∈ pl, PF M.ow g.1 g.2.1 g.2.2.1 g.2.2.2) ∧ eok M.cd M.ii gl pl pc (t pc) = true := by
  obtain ⟨gl, pl, N, h1, h2, h3, h4⟩ := H
  refine ⟨gl, pl, h1, h2, ?_⟩
  by_cases hp : pc < N
  · exact h3 pc hp
  · have h5 := h4 pc (Nat.le_of_not_lt hp)
    generalize t pc = e at h5
    obtain ⟨ins, nx, a, b, d, c⟩ := e
    dsimp only at h5
    subst h5
    rfl
section RUN
variable {w : W0} {M : MI} {Q : Option Value → AH → Prop} {QX : String → AH → Prop} {kc ns pc : Nat} {L : List (Option Value)} {st : List Value} {h : AH}
theorem X.loc (k : L.length = M.ml → X w M Q QX kc ns pc L st h) : X w M Q QX kc ns pc L st h := by
  intro p e s m args below meth c H locs tys ws ls C hK hP hD hE hS hB hl
  exact k hl.2.2.1 p e s m args below meth c H locs tys ws ls C hK hP hD hE hS hB hl
theorem x_lcmp {x y : Int64} (hd : decode M.cd pc = .ok (.lcmp, 1)) (k : X w M Q QX kc ns (pc + 1) L (.int (lg_cmp x y) :: st) h) : X w M Q QX kc ns pc L (.long y :: .long x :: st) h := by
  intro p e s m args below meth c H locs tys ws ls C hK hP hD hE hS hB hl
  exact W.lcmp C.1 C.2.1 hd (k p e s m args below meth c H locs tys ws ls C hK hP hD hE hS hB hl)
theorem x_throwW {cls : String} {ik is ic : Nat} (d0 : decode M.cd pc = .ok (.new ik, 3)) (d3 : decode M.cd (pc + 3) = .ok (.dup, 1)) (d4 : decode M.cd (pc + 4) = .ok (.ldc_w is, 3)) (d7 : decode M.cd (pc + 7) = .ok (.invokespecial ic, 3)) (d10 : decode M.cd (pc + 10) = .ok (.athrow, 1)) (hth : TH M.ow cls ik is ic)
    (hh : M.hh = []) (hf : 5 < M.rm.frames) (hlo : (st.map fun v => v.category).sum + 82 ≤ M.rm.locals) (hc : kc + 1 ≤ M.rm.cells) (hs : ns + 6 ≤ M.rm.slots) (hq : QX cls h) : X w M Q QX kc ns pc L st h := by
  intro p e s m args below meth c H locs tys ws ls C hK hP hD hE hS hB hl
  obtain ⟨hx, hb, hml, hr, hlock, hown, hts, hin, htab⟩ := C
  obtain ⟨g1, g2, g3, ⟨text, g4⟩, g5, g6⟩ := hth
  obtain ⟨sa, hsa⟩ := hB.2.2.2.2.2.2.2.2.2.2.1 _ g4
  exact vx_throwSW (names := exN) (own := M.ow) (ik := ik) (ic := ic) (text := text) hx hb hB.1 hown g1 (by decide +kernel) (hts _ g2) (hts _ g3) hsa (fun t ht => (g5 t ht).elim (hts t) (fun z => va_Nw.use (NWl_onT t z) (hB.2.2.2.2.2.2.2.2.2.1 t z))) g6 hB.2.2.1 hB.2.2.2.1 hS (by rw [hml, hl.1]) d0 d3 d4 d7 d10 (fun x hx2 => by rw [htab, hh] at hx2; cases hx2)
    hf hlo hc hs hlock (fun t ht hz hk => ⟨h, hq, ⟨tys, ws, va_K.moved ht hK, hP.kept (fun k q hk2 => hk q.1 ((hP k q hk2).lt)), hD, hE⟩, Nat.le_trans hS.1 hz, fun q h1 h2 => by rw [hk q (Nat.lt_of_lt_of_le h1 hS.1)]; exact hS.2.1 q h1 h2⟩) hS.2.2 hc hs
theorem step_ok {t : Nat → CE} (hk : RK M t) {R : Nat → List (Option Value) → List Value → AH → Prop} (hR : ∀ pc L st h, R pc L st h → X w M Q QX kc ns pc L st h) (hs : step w M Q QX R kc ns pc L st h (t pc)) : X w M Q QX kc ns pc L st h := by
  obtain ⟨gl, pl, hg, hp, ho⟩ := hk.at pc
  generalize t pc = e at hs ho
  obtain ⟨ins, nx, a, b, d, c⟩ := e
  unfold step at hs
  dsimp only at hs
  by_cases hkn : known ins = true
  · simp only [eok, hkn, Bool.not_true, Bool.false_or, Bool.and_eq_true, decide_eq_true_eq] at ho
    obtain ⟨⟨hd, rfl⟩, ho⟩ := ho
    cases ins
    all_goals first | exact absurd hkn Bool.false_ne_true | skip
    all_goals dsimp only at hs ho
    all_goals try simp only [decide_eq_true_eq, Bool.and_eq_true] at ho
    case iconst n =>
      subst ho
      exact x_iconst hd (hR _ _ _ _ hs)
    case bipush n =>
      subst ho
      exact x_bipush hd (hR _ _ _ _ hs)
    case sipush n =>
      subst ho
      exact x_sipush hd (hR _ _ _ _ hs)
    case aconst_null  =>
      exact x_null hd (hR _ _ _ _ hs)
    case iload_n i =>
      obtain ⟨v, h1, h2⟩ := lget_ok _ _ _ hs
      cases v
      case int x => exact x_iload_n hd h1 (hR _ _ _ _ h2)
      all_goals exact h2.elim
    case iload i =>
      obtain ⟨v, h1, h2⟩ := lget_ok _ _ _ hs
      cases v
      case int x => exact x_iload hd h1 (hR _ _ _ _ h2)
      all_goals exact h2.elim
    case aload_n i =>
      obtain ⟨v, h1, h2⟩ := lget_ok _ _ _ hs
      cases v
      case ref x => exact x_aload_n hd h1 (hR _ _ _ _ h2)
      case null => exact x_aloadN_n hd h1 (hR _ _ _ _ h2)
      all_goals exact h2.elim
    case aload i =>
      obtain ⟨v, h1, h2⟩ := lget_ok _ _ _ hs
      cases v
      case ref x => exact x_aload hd h1 (hR _ _ _ _ h2)
      case null => exact x_aloadN hd h1 (hR _ _ _ _ h2)
      all_goals exact h2.elim
    case istore_n i =>
      split at hs
      · obtain ⟨h1, h2⟩ := lput_ok _ _ _ _ hs
        exact X.loc fun hl => x_istore_n hd (by rw [← hl]; exact h1) (hR _ _ _ _ h2)
      · exact hs.elim
    case istore i =>
      split at hs
      · obtain ⟨h1, h2⟩ := lput_ok _ _ _ _ hs
        exact X.loc fun hl => x_istore hd (by rw [← hl]; exact h1) (hR _ _ _ _ h2)
      · exact hs.elim
    case astore_n i =>
      split at hs
      · obtain ⟨h1, h2⟩ := lput_ok _ _ _ _ hs
        exact X.loc fun hl => x_astore_n hd (by rw [← hl]; exact h1) (hR _ _ _ _ h2)
      · obtain ⟨h1, h2⟩ := lput_ok _ _ _ _ hs
        exact X.loc fun hl => x_astoreN_n hd (by rw [← hl]; exact h1) (hR _ _ _ _ h2)
      · exact hs.elim
    case astore i =>
      split at hs
      · obtain ⟨h1, h2⟩ := lput_ok _ _ _ _ hs
        exact X.loc fun hl => x_astore hd (by rw [← hl]; exact h1) (hR _ _ _ _ h2)
      · obtain ⟨h1, h2⟩ := lput_ok _ _ _ _ hs
        exact X.loc fun hl => x_astoreN hd (by rw [← hl]; exact h1) (hR _ _ _ _ h2)
      · exact hs.elim
    case iinc i n =>
      subst ho
      obtain ⟨v, h1, h2⟩ := lget_ok _ _ _ hs
      cases v
      case int x =>
        obtain ⟨-, h4⟩ := lput_ok _ _ _ _ h2
        exact x_iinc hd h1 (hR _ _ _ _ h4)
      all_goals exact h2.elim
    case iadd  =>
      split at hs
      · exact x_iadd hd (hR _ _ _ _ hs)
      · exact hs.elim
    case isub  =>
      split at hs
      · exact x_isub hd (hR _ _ _ _ hs)
      · exact hs.elim
    case imul  =>
      split at hs
      · exact x_imul hd (hR _ _ _ _ hs)
      · exact hs.elim
    case iand  =>
      split at hs
      · exact x_iand hd (hR _ _ _ _ hs)
      · exact hs.elim
    case ior  =>
      split at hs
      · exact x_ior hd (hR _ _ _ _ hs)
      · exact hs.elim
    case iushr  =>
      split at hs
      · exact x_iushr hd (hR _ _ _ _ hs)
      · exact hs.elim
    case ishr  =>
      split at hs
      · exact x_ishr hd (hR _ _ _ _ hs)
      · exact hs.elim
    case idiv  =>
      split at hs
      · exact x_idiv hd hs.1 (hR _ _ _ _ hs.2)
      · exact hs.elim
    case irem  =>
      split at hs
      · exact x_irem hd hs.1 (hR _ _ _ _ hs.2)
      · exact hs.elim
    case ineg  =>
      split at hs
      · exact x_ineg hd (hR _ _ _ _ hs)
      · exact hs.elim
    case i2l  =>
      split at hs
      · exact x_i2l hd (hR _ _ _ _ hs)
      · exact hs.elim
    case lcmp  =>
      split at hs
      · exact x_lcmp hd (hR _ _ _ _ hs)
      · exact hs.elim
    case dup  =>
      split at hs
      · exact x_dup hd rfl (hR _ _ _ _ hs)
      · exact x_dup hd rfl (hR _ _ _ _ hs)
      · exact hs.elim
    case dup2  =>
      split at hs
      · exact x_dup2 hd rfl rfl (hR _ _ _ _ hs)
      · exact hs.elim
    case pop  =>
      split at hs
      · exact x_pop hd rfl (hR _ _ _ _ hs)
      · exact hs.elim
    case if_icmp cn off =>
      split at hs
      · cases cn
        case eq => exact x_icmp_eq hd ho (fun z => hR _ _ _ _ (hs.1 z)) (fun z => hR _ _ _ _ (hs.2 z))
        case ne => exact x_icmp_ne hd ho (fun z => hR _ _ _ _ (hs.1 z)) (fun z => hR _ _ _ _ (hs.2 z))
        case lt => exact x_icmp_lt hd ho (fun z => hR _ _ _ _ (hs.1 z)) (fun z => hR _ _ _ _ (hs.2 z))
        case ge => exact x_icmp_ge hd ho (fun z => hR _ _ _ _ (hs.1 z)) (fun z => hR _ _ _ _ (hs.2 z))
        case gt => exact x_icmp_gt hd ho (fun z => hR _ _ _ _ (hs.1 z)) (fun z => hR _ _ _ _ (hs.2 z))
        case le => exact x_icmp_le hd ho (fun z => hR _ _ _ _ (hs.1 z)) (fun z => hR _ _ _ _ (hs.2 z))
      · exact hs.elim
    case ifCond cn off =>
      split at hs
      · cases cn
        case eq => exact x_if_eq hd ho (fun z => hR _ _ _ _ (hs.1 z)) (fun z => hR _ _ _ _ (hs.2 z))
        case ne => exact x_if_ne hd ho (fun z => hR _ _ _ _ (hs.1 z)) (fun z => hR _ _ _ _ (hs.2 z))
        case lt => exact x_if_lt hd ho (fun z => hR _ _ _ _ (hs.1 z)) (fun z => hR _ _ _ _ (hs.2 z))
        case ge => exact x_if_ge hd ho (fun z => hR _ _ _ _ (hs.1 z)) (fun z => hR _ _ _ _ (hs.2 z))
        case gt => exact x_if_gt hd ho (fun z => hR _ _ _ _ (hs.1 z)) (fun z => hR _ _ _ _ (hs.2 z))
        case le => exact x_if_le hd ho (fun z => hR _ _ _ _ (hs.1 z)) (fun z => hR _ _ _ _ (hs.2 z))
      · exact hs.elim
    case if_acmp cn off =>
      split at hs
      · rename_i y x st'
        cases cn
        case ne => exact x_acmp_ne (rx := some x) (ry := some y) hd ho (fun z => hR _ _ _ _ (hs.1 (fun q => z (by rw [q])))) (fun z => hR _ _ _ _ (hs.2 (Option.some.inj z)))
        case eq => exact hs.elim
      · exact hs.elim
    case goto off =>
      exact x_goto hd ho (hR _ _ _ _ hs)
    case ifnull off =>
      split at hs
      · exact x_ifnull hd (hR _ _ _ _ hs)
      · exact x_ifnullN hd ho (hR _ _ _ _ hs)
      · exact hs.elim
    case ifnonnull off =>
      split at hs
      · exact x_ifnonnull hd ho (hR _ _ _ _ hs)
      · exact x_ifnonnullN hd (hR _ _ _ _ hs)
      · exact hs.elim
    case getfield idx =>
      split at hs
      · obtain ⟨h1, h2⟩ := hs
        have hf := hg _ ho.1
        split at h2
        · exact x_getI hd hf ho.2 h1 (hR _ _ _ _ h2)
        · obtain ⟨r, rfl, h3⟩ := h2
          exact x_getR hd hf ho.2 h1 (hR _ _ _ _ h3)
        · exact h2.elim
      · exact hs.elim
    case putfield idx =>
      have hf := hp _ ho.1
      have hii := ho.2
      split at hs
      · split at hs
        · exact x_putI hd hf.1 hf.2 hs.1 (hR _ _ _ _ hs.2)
        · exact hs.elim
      · split at hs
        · exact x_putZ hd hf.1 hf.2 hs.1.1 hs.1.2 (hR _ _ _ _ hs.2)
        · exact hs.elim
      · obtain ⟨⟨Cl, hf1⟩, hf2⟩ := hf
        split at hs
        · rename_i v o st'
          exact x_putR (v := some v) hd hf1 hf2 hs.1 (hR _ _ _ _ hs.2)
        · exact x_putR (v := none) hd hf1 hf2 hs.1 (hR _ _ _ _ hs.2)
        · exact hs.elim
      · split at hs
        · exact x_putFI hd hf.1 hf.2 hs.1 (by simpa using hii) (hR _ _ _ _ hs.2)
        · exact hs.elim
      · obtain ⟨⟨Cl, hf1⟩, hf2⟩ := hf
        split at hs
        · rename_i v o st'
          exact x_putFR (v := some v) hd hf1 hf2 hs.1 (by simpa using hii) (hR _ _ _ _ hs.2)
        · exact hs.elim
      · obtain ⟨⟨Cl, hf1⟩, hf2⟩ := hf
        split at hs
        · rename_i v o st'
          exact x_putFA (v := some v) hd hf1 hf2 hs.1 (by simpa using hii) (hR _ _ _ _ hs.2)
        · exact hs.elim
      · exact hs.elim
    case iaload  =>
      split at hs
      · exact x_iald hd hs.1.1 hs.1.2 (hR _ _ _ _ hs.2)
      · exact hs.elim
    case baload  =>
      split at hs
      · exact x_zald hd hs.1.1 hs.1.2 (hR _ _ _ _ hs.2)
      · exact hs.elim
    case laload  =>
      split at hs
      · exact x_lald hd hs.1.1 hs.1.2 (hR _ _ _ _ hs.2)
      · exact hs.elim
    case iastore  =>
      split at hs
      · exact x_iast hd hs.1.1 hs.1.2 (hR _ _ _ _ hs.2)
      · exact hs.elim
    case lastore  =>
      split at hs
      · exact x_last hd hs.1.1 hs.1.2 (hR _ _ _ _ hs.2)
      · exact hs.elim
    case bastore  =>
      split at hs
      · exact x_zast hd hs.1.1 hs.1.2.1 hs.1.2.2 (hR _ _ _ _ hs.2)
      · exact hs.elim
    case aaload  =>
      split at hs
      · obtain ⟨h1, r, rfl, h3⟩ := hs
        exact x_aald hd h1.1 h1.2 (hR _ _ _ _ h3)
      · exact hs.elim
    case arraylength  =>
      split at hs
      · exact x_alen hd hs.1 (hR _ _ _ _ hs.2)
      · exact hs.elim
    case ireturn  =>
      split at hs
      · obtain ⟨h1, h2⟩ := hs
        split at h2
        · rename_i hrt
          exact x_iret hd hrt h1.1 h1.2 h2
        · rename_i hrt
          exact x_zret hd hrt h2.1 h1.1 h1.2 h2.2
        · exact h2.elim
      · exact hs.elim
    case areturn  =>
      split at hs
      · rename_i v
        obtain ⟨h1, h2⟩ := hs
        split at h2
        · rename_i hrt
          exact x_aret (v := some v) hd hrt (Or.inl ⟨_, rfl⟩) h1.1 h1.2 h2
        · rename_i hrt
          exact x_aret (v := some v) hd hrt (Or.inr ⟨_, rfl⟩) h1.1 h1.2 h2
        · exact h2.elim
      · obtain ⟨h1, h2⟩ := hs
        split at h2
        · rename_i hrt
          exact x_aret (v := none) hd hrt (Or.inl ⟨_, rfl⟩) h1.1 h1.2 h2
        · rename_i hrt
          exact x_aret (v := none) hd hrt (Or.inr ⟨_, rfl⟩) h1.1 h1.2 h2
        · exact h2.elim
      · exact hs.elim
    case return_  =>
      split at hs
      · obtain ⟨h1, h2⟩ := hs
        split at h2
        · rename_i hrt
          exact x_vret hd hrt h1.1 h1.2 h2
        · exact h2.elim
      · exact hs.elim
  · cases ins
    all_goals first | exact hs | exact absurd rfl hkn
theorem run_ok {t : Nat → CE} (hk : RK M t) (cut : Nat → Bool) : ∀ (n kc ns pc : Nat) (L : List (Option Value)) (st : List Value) (h : AH), run w M Q QX t cut n kc ns pc L st h → X w M Q QX kc ns pc L st h
  | 0, _, _, _, _, _, _, hs => hs
  | n + 1, kc, ns, pc, L, st, h, hs => by
    unfold run at hs
    cases hc : cut pc with
    | true => rw [hc] at hs; exact hs
    | false =>
      rw [hc] at hs
      exact step_ok hk (fun pc L st h z => run_ok hk cut n kc ns pc L st h z) hs
/-- at a place where it would stop: go one further -/
theorem run_go {t : Nat → CE} (hk : RK M t) (cut : Nat → Bool) (n : Nat) (hs : step w M Q QX (fun pc L st h => run w M Q QX t cut n kc ns pc L st h) kc ns pc L st h (t pc)) : X w M Q QX kc ns pc L st h :=
  step_ok hk (fun pc L st h z => run_ok hk cut n kc ns pc L st h z) hs
end RUN

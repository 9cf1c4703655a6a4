
/-! THE LAW'S ARRAYS: what lies in them as a function; the judgement Y over it -/
abbrev LSt : Type := Nat → Nat → Int32
def lu (l : LSt) (j k : Nat) (v : Int32) : LSt := fun j' k' => if j' = j ∧ k' = k then v else l j' k'
theorem lu_s {l : LSt} {j k : Nat} {v : Int32} : lu l j k v j k = v := if_pos ⟨rfl, rfl⟩
theorem lu_o {l : LSt} {j k j' k' : Nat} {v : Int32} (h : ¬ (j' = j ∧ k' = k)) : lu l j k v j' k' = l j' k' := if_neg h
/-- which array lies at an address: 0 to 9; 10 the one for ways -/
def lnr (p a : Nat) : Nat := if a % 8 = 6 then (if a / 8 < 10 then a / 8 else if a / 8 = p then 10 else 11) else 11
theorem lnr_M {p j : Nat} (h : j < 10) : lnr p (tM j) = j := by
  unfold lnr tM
  rw [if_pos (by omega), if_pos (by omega)]
  omega
theorem lnr_p {p : Nat} (h : 10 ≤ p) : lnr p (tM p) = 10 := by
  unfold lnr tM
  rw [if_pos (by omega), if_neg (by omega), if_pos (by omega)]
theorem lnr_inj {p a b : Nat} (ha : lnr p a < 11) (h : lnr p a = lnr p b) : a = b := by
  unfold lnr at ha h
  (repeat' split at ha) <;> (repeat' split at h) <;> omega
theorem lnr_tM {p a : Nat} (h : lnr p a < 11) : ∃ i, a = tM i := by
  unfold lnr at h
  unfold tM
  split at h
  · exact ⟨a / 8, by omega⟩
  · omega
def PL (κ : AH) (p : Nat) (l : LSt) : AH := (κ.1, κ.2.1, fun a k => if lnr p a < 11 then l (lnr p a) k else κ.2.2.1 a k, κ.2.2.2.1, κ.2.2.2.2)
theorem gT_PL {κ : AH} {p : Nat} {l : LSt} (a : Nat) : gT (PL κ p l) a = gT κ a := rfl
theorem gN_PL {κ : AH} {p : Nat} {l : LSt} (a : Nat) : gN (PL κ p l) a = gN κ a := rfl
theorem gR_PL {κ : AH} {p : Nat} {l : LSt} (a k : Nat) : gR (PL κ p l) a k = gR κ a k := rfl
theorem gI_PL {κ : AH} {p : Nat} {l : LSt} (a k : Nat) : gI (PL κ p l) a k = if lnr p a < 11 then l (lnr p a) k else gI κ a k := rfl
theorem gI_PLj {κ : AH} {p j : Nat} {l : LSt} {a : Nat} (k : Nat) (h : lnr p a = j) (hj : j < 11) : gI (PL κ p l) a k = l j k := by
  rw [gI_PL, h, if_pos hj]
theorem PL_sI {κ : AH} {p j : Nat} {l : LSt} {a k : Nat} {v : Int32} (h : lnr p a = j) (hj : j < 11) : sI (PL κ p l) a k v = PL κ p (lu l j k v) := by
  subst h
  refine congrArg (fun f => (κ.1, κ.2.1, f, κ.2.2.2.1, κ.2.2.2.2)) (funext fun b => funext fun i => ?_)
  show (if b = a ∧ i = k then v else if lnr p b < 11 then l (lnr p b) i else κ.2.2.1 b i) = if lnr p b < 11 then (if lnr p b = lnr p a ∧ i = k then v else l (lnr p b) i) else κ.2.2.1 b i
  by_cases e : b = a
  · subst e
    rw [if_pos hj, if_pos hj]
    by_cases e2 : i = k
    · rw [if_pos ⟨rfl, e2⟩, if_pos ⟨rfl, e2⟩]
    · rw [if_neg (fun z => e2 z.2), if_neg (fun z => e2 z.2)]
  · rw [if_neg (fun z => e z.1)]
    by_cases e2 : lnr p b < 11
    · rw [if_pos e2, if_pos e2, if_neg (fun z => e (lnr_inj e2 z.1))]
    · rw [if_neg e2, if_neg e2]
/-- what lies in the arrays -/
def lo (κ : AH) (p : Nat) : LSt := fun j k => if j < 10 then gI κ (tM j) k else gI κ (tM p) k
theorem lnr_ge {p a : Nat} (h : lnr p a < 11) (h2 : 10 ≤ lnr p a) : a = tM p := by
  unfold lnr at h h2
  unfold tM
  (repeat' split at h) <;> (repeat' split at h2) <;> omega
theorem PL_of {κ : AH} {p : Nat} {l : LSt} (h : ∀ a k, lnr p a < 11 → gI κ a k = l (lnr p a) k) : κ = PL κ p l := by
  refine congrArg (fun f => (κ.1, κ.2.1, f, κ.2.2.2.1, κ.2.2.2.2)) (funext fun b => funext fun i => ?_)
  show κ.2.2.1 b i = if lnr p b < 11 then l (lnr p b) i else κ.2.2.1 b i
  by_cases e : lnr p b < 11
  · rw [if_pos e]; exact h b i e
  · rw [if_neg e]
theorem PL_lo {κ : AH} {p : Nat} : κ = PL κ p (lo κ p) := PL_of fun a k h => by
  unfold lo
  by_cases e : lnr p a < 10
  · rw [if_pos e]
    have : a = tM (lnr p a) := lnr_inj (p := p) h (lnr_M e).symm
    rw [← this]
  · rw [if_neg e, lnr_ge h (by omega)]
def alen : Nat → Nat := fun j => match j with
  | 6 => 61
  | 7 => 36
  | 8 => 37
  | 9 => 13
  | 10 => 36
  | _ => 40
def AK (κ : AH) : Prop := ∀ j, j < 10 → gT κ (tM j) = 11 ∧ gN κ (tM j) = alen j
theorem alen_lt : ∀ j, alen j < 2 ^ 31 := fun j => by
  unfold alen
  split <;> decide
def IxK (κ : AH) (p : Nat) (i : Int32) (o j k : Nat) : Prop := lnr p o = j ∧ j < 11 ∧ gT κ o = 11 ∧ gN κ o < 2 ^ 31 ∧ k < gN κ o ∧ i = nI k
theorem AK.ld {κ : AH} {p j k : Nat} {i : Int32} (h : AK κ) (hj : j < 10) (hk : k < alen j) (hi : i = nI k) : IxK κ p i (tM j) j k := ⟨lnr_M hj, by omega, (h j hj).1, by rw [(h j hj).2]; exact alen_lt j, by rw [(h j hj).2]; exact hk, hi⟩
def AF (κ : AH) (p : Nat) : Prop := 41 ≤ p ∧ gT κ (tM p) = 11 ∧ gN κ (tM p) = 36
theorem AF.ld {κ : AH} {p k : Nat} {i : Int32} (h : AF κ p) (hk : k < 36) (hi : i = nI k) : IxK κ p i (tM p) 10 k := ⟨lnr_p (by have := h.1; omega), by decide, h.2.1, by rw [h.2.2]; decide, by rw [h.2.2]; exact hk, hi⟩
theorem lget_mono : ∀ {L : List (Option Value)} {i : Nat} {K K' : Value → Prop}, lget L i K → (∀ v, K v → K' v) → lget L i K'
  | [], _, _, _, h, _ => h.elim
  | some v :: _, 0, _, _, h, hk => hk v h
  | none :: _, 0, _, _, h, _ => h.elim
  | some _ :: r, i + 1, K, K', h, hk => lget_mono (L := r) (i := i) h hk
  | none :: r, i + 1, K, K', h, hk => lget_mono (L := r) (i := i) h hk
theorem lput_mono : ∀ {L : List (Option Value)} {i : Nat} {v : Value} {K K' : List (Option Value) → Prop}, lput L i v K → (∀ L', K L' → K' L') → lput L i v K'
  | [], _, _, _, _, h, _ => h.elim
  | _ :: r, 0, v, K, K', h, hk => hk _ h
  | y :: r, i + 1, v, K, K', h, hk => lput_mono (L := r) (i := i) h (fun L' z => hk _ z)
def knownL : Instr → Bool
  | .iconst _ => true
  | .bipush _ => true
  | .sipush _ => true
  | .goto _ => true
  | .iload_n _ => true
  | .iload _ => true
  | .aload_n _ => true
  | .aload _ => true
  | .istore_n _ => true
  | .istore _ => true
  | .astore_n _ => true
  | .astore _ => true
  | .iadd => true
  | .isub => true
  | .imul => true
  | .iand => true
  | .iushr => true
  | .ishr => true
  | .idiv => true
  | .irem => true
  | .iinc _ _ => true
  | .dup => true
  | .dup2 => true
  | .if_icmp _ _ => true
  | .ifCond _ _ => true
  | .ireturn => true
  | .return_ => true
  | _ => false
theorem step_const {w : W0} {M : MI} {Q : Option Value → AH → Prop} {QX : String → AH → Prop} {R : Nat → List (Option Value) → List Value → Prop} {kc ns pc : Nat} {L : List (Option Value)} {st : List Value} {h : AH} {e : CE} (hk : knownL e.1 = true) (hs : step w M Q QX (fun pc L st _ => R pc L st) kc ns pc L st h e) : step w M Q QX (fun pc L st h' => h' = h ∧ R pc L st) kc ns pc L st h e := by
  obtain ⟨ins, nx, a, b, d, c⟩ := e
  unfold step at hs ⊢
  dsimp only at hs hk ⊢
  cases ins
  all_goals first | exact absurd hk Bool.false_ne_true | skip
  all_goals dsimp only at hs ⊢
  case iconst n => exact (And.intro rfl hs)
  case bipush n => exact (And.intro rfl hs)
  case sipush n => exact (And.intro rfl hs)
  case goto off => exact (And.intro rfl hs)
  case iload_n i =>
    refine lget_mono hs (fun v z => ?_)
    cases v
    case int x => exact (And.intro rfl z)
    all_goals exact z.elim
  case iload i =>
    refine lget_mono hs (fun v z => ?_)
    cases v
    case int x => exact (And.intro rfl z)
    all_goals exact z.elim
  case aload_n i =>
    refine lget_mono hs (fun v z => ?_)
    cases v
    case ref x => exact (And.intro rfl z)
    case null => exact (And.intro rfl z)
    all_goals exact z.elim
  case aload i =>
    refine lget_mono hs (fun v z => ?_)
    cases v
    case ref x => exact (And.intro rfl z)
    case null => exact (And.intro rfl z)
    all_goals exact z.elim
  case istore_n i =>
    split at hs
    · exact lput_mono hs (fun L' z => (And.intro rfl z))
    · exact hs.elim
  case istore i =>
    split at hs
    · exact lput_mono hs (fun L' z => (And.intro rfl z))
    · exact hs.elim
  case astore_n i =>
    split at hs
    · exact lput_mono hs (fun L' z => (And.intro rfl z))
    · exact lput_mono hs (fun L' z => (And.intro rfl z))
    · exact hs.elim
  case astore i =>
    split at hs
    · exact lput_mono hs (fun L' z => (And.intro rfl z))
    · exact lput_mono hs (fun L' z => (And.intro rfl z))
    · exact hs.elim
  case iadd =>
    split at hs
    · exact (And.intro rfl hs)
    · exact hs.elim
  case isub =>
    split at hs
    · exact (And.intro rfl hs)
    · exact hs.elim
  case imul =>
    split at hs
    · exact (And.intro rfl hs)
    · exact hs.elim
  case iand =>
    split at hs
    · exact (And.intro rfl hs)
    · exact hs.elim
  case iushr =>
    split at hs
    · exact (And.intro rfl hs)
    · exact hs.elim
  case ishr =>
    split at hs
    · exact (And.intro rfl hs)
    · exact hs.elim
  case idiv =>
    split at hs
    · exact ⟨hs.1, (And.intro rfl hs.2)⟩
    · exact hs.elim
  case irem =>
    split at hs
    · exact ⟨hs.1, (And.intro rfl hs.2)⟩
    · exact hs.elim
  case iinc i n =>
    refine lget_mono hs (fun v z => ?_)
    cases v
    case int x => exact lput_mono z (fun L' z => (And.intro rfl z))
    all_goals exact z.elim
  case dup =>
    split at hs
    · exact (And.intro rfl hs)
    · exact (And.intro rfl hs)
    · exact hs.elim
  case dup2 =>
    split at hs
    · exact (And.intro rfl hs)
    · exact hs.elim
  case if_icmp cn off =>
    split at hs
    · cases cn
      all_goals exact ⟨fun z => (And.intro rfl (hs.1 z)), fun z => (And.intro rfl (hs.2 z))⟩
    · exact hs.elim
  case ifCond cn off =>
    split at hs
    · cases cn
      all_goals exact ⟨fun z => (And.intro rfl (hs.1 z)), fun z => (And.intro rfl (hs.2 z))⟩
    · exact hs.elim
  case ireturn => exact hs
  case return_ => exact hs
theorem step_mono {w : W0} {M : MI} {Q : Option Value → AH → Prop} {QX : String → AH → Prop} {R R' : Nat → List (Option Value) → List Value → AH → Prop} {kc ns pc : Nat} {L : List (Option Value)} {st : List Value} {h : AH} {e : CE} (hk : knownL e.1 = true) (hR : ∀ pc L st h, R pc L st h → R' pc L st h) (hs : step w M Q QX R kc ns pc L st h e) : step w M Q QX R' kc ns pc L st h e := by
  obtain ⟨ins, nx, a, b, d, c⟩ := e
  unfold step at hs ⊢
  dsimp only at hs hk ⊢
  cases ins
  all_goals first | exact absurd hk Bool.false_ne_true | skip
  all_goals dsimp only at hs ⊢
  case iconst n => exact (hR _ _ _ _ hs)
  case bipush n => exact (hR _ _ _ _ hs)
  case sipush n => exact (hR _ _ _ _ hs)
  case goto off => exact (hR _ _ _ _ hs)
  case iload_n i =>
    refine lget_mono hs (fun v z => ?_)
    cases v
    case int x => exact (hR _ _ _ _ z)
    all_goals exact z.elim
  case iload i =>
    refine lget_mono hs (fun v z => ?_)
    cases v
    case int x => exact (hR _ _ _ _ z)
    all_goals exact z.elim
  case aload_n i =>
    refine lget_mono hs (fun v z => ?_)
    cases v
    case ref x => exact (hR _ _ _ _ z)
    case null => exact (hR _ _ _ _ z)
    all_goals exact z.elim
  case aload i =>
    refine lget_mono hs (fun v z => ?_)
    cases v
    case ref x => exact (hR _ _ _ _ z)
    case null => exact (hR _ _ _ _ z)
    all_goals exact z.elim
  case istore_n i =>
    split at hs
    · exact lput_mono hs (fun L' z => (hR _ _ _ _ z))
    · exact hs.elim
  case istore i =>
    split at hs
    · exact lput_mono hs (fun L' z => (hR _ _ _ _ z))
    · exact hs.elim
  case astore_n i =>
    split at hs
    · exact lput_mono hs (fun L' z => (hR _ _ _ _ z))
    · exact lput_mono hs (fun L' z => (hR _ _ _ _ z))
    · exact hs.elim
  case astore i =>
    split at hs
    · exact lput_mono hs (fun L' z => (hR _ _ _ _ z))
    · exact lput_mono hs (fun L' z => (hR _ _ _ _ z))
    · exact hs.elim
  case iadd =>
    split at hs
    · exact (hR _ _ _ _ hs)
    · exact hs.elim
  case isub =>
    split at hs
    · exact (hR _ _ _ _ hs)
    · exact hs.elim
  case imul =>
    split at hs
    · exact (hR _ _ _ _ hs)
    · exact hs.elim
  case iand =>
    split at hs
    · exact (hR _ _ _ _ hs)
    · exact hs.elim
  case iushr =>
    split at hs
    · exact (hR _ _ _ _ hs)
    · exact hs.elim
  case ishr =>
    split at hs
    · exact (hR _ _ _ _ hs)
    · exact hs.elim
  case idiv =>
    split at hs
    · exact ⟨hs.1, (hR _ _ _ _ hs.2)⟩
    · exact hs.elim
  case irem =>
    split at hs
    · exact ⟨hs.1, (hR _ _ _ _ hs.2)⟩
    · exact hs.elim
  case iinc i n =>
    refine lget_mono hs (fun v z => ?_)
    cases v
    case int x => exact lput_mono z (fun L' z => (hR _ _ _ _ z))
    all_goals exact z.elim
  case dup =>
    split at hs
    · exact (hR _ _ _ _ hs)
    · exact (hR _ _ _ _ hs)
    · exact hs.elim
  case dup2 =>
    split at hs
    · exact (hR _ _ _ _ hs)
    · exact hs.elim
  case if_icmp cn off =>
    split at hs
    · cases cn
      all_goals exact ⟨fun z => (hR _ _ _ _ (hs.1 z)), fun z => (hR _ _ _ _ (hs.2 z))⟩
    · exact hs.elim
  case ifCond cn off =>
    split at hs
    · cases cn
      all_goals exact ⟨fun z => (hR _ _ _ _ (hs.1 z)), fun z => (hR _ _ _ _ (hs.2 z))⟩
    · exact hs.elim
  case ireturn => exact hs
  case return_ => exact hs
def stepL (w : W0) (M : MI) (Q : Option Value → AH → Prop) (QX : String → AH → Prop) (κ : AH) (p : Nat) (R : Nat → List (Option Value) → List Value → LSt → Prop) (kc ns pc : Nat) (L : List (Option Value)) (st : List Value) (l : LSt) (e : CE) : Prop :=
  match e with
  | (ins, nx, a, b, d, c) => match ins with
    | .iaload => match st with
      | .int i :: .ref o :: st' => ∃ j k, IxK κ p i o j k ∧ R nx L (.int (l j k) :: st') l
      | _ => False
    | .iastore => match st with
      | .int x :: .int i :: .ref o :: st' => ∃ j k, IxK κ p i o j k ∧ R nx L st' (lu l j k x)
      | _ => False
    | i => step w M Q QX (fun pc L st _ => R pc L st l) kc ns pc L st (PL κ p l) (i, nx, a, b, d, c)
def knL (i : Instr) : Bool := match i with
  | .iaload => true
  | .iastore => true
  | i => knownL i
theorem knownL_known : ∀ {i : Instr}, knownL i = true → known i = true := by
  intro i h
  cases i
  all_goals first | rfl | exact absurd h Bool.false_ne_true
theorem knownL_mem {i : Instr} (h : knownL i = true) : i ≠ .iaload ∧ i ≠ .iastore := ⟨fun z => by subst z; exact absurd h Bool.false_ne_true, fun z => by subst z; exact absurd h Bool.false_ne_true⟩
section LL
variable {w : W0} {M : MI} {θ0 : Nat → Nat} {κ0 : AH} {Q : Option Value → AH → Prop} {QX : String → AH → Prop} {kc ns pc : Nat} {L : List (Option Value)} {st : List Value} {κ : AH} {p : Nat} {l : LSt}
theorem YL_step {t : Nat → CE} (hk : RK M t) {R : Nat → List (Option Value) → List Value → LSt → Prop} (hR : ∀ pc L st l, R pc L st l → Y w M θ0 κ0 Q QX kc ns pc L st (PL κ p l)) (hkn : knL (t pc).1 = true) (hs : stepL w M Q QX κ p R kc ns pc L st l (t pc)) : Y w M θ0 κ0 Q QX kc ns pc L st (PL κ p l) := by
  refine Y_step (R := fun pc L st κ' => Y w M θ0 κ0 Q QX kc ns pc L st κ') hk (fun _ _ _ _ z => z) ?_ ?_
  · unfold knL at hkn
    split at hkn
    · rename_i z; rw [z]; rfl
    · rename_i z; rw [z]; rfl
    · exact knownL_known hkn
  · generalize t pc = e at hs hkn
    obtain ⟨ins, nx, a, b, d, c⟩ := e
    unfold stepL at hs
    dsimp only at hs hkn
    split at hs
    · split at hs
      · obtain ⟨j, k, ⟨h1, h2, h3, h4, h5k, h6⟩, h5⟩ := hs
        have hkb : k < 2 ^ 31 := Nat.lt_trans h5k h4
        subst h6
        unfold step
        dsimp only
        refine ⟨⟨h3, vp_in_nI h5k h4⟩, ?_⟩
        rw [nI_clamp hkb, gI_PLj _ h1 h2]
        exact hR _ _ _ _ h5
      · exact hs.elim
    · split at hs
      · obtain ⟨j, k, ⟨h1, h2, h3, h4, h5k, h6⟩, h5⟩ := hs
        have hkb : k < 2 ^ 31 := Nat.lt_trans h5k h4
        subst h6
        unfold step
        dsimp only
        refine ⟨⟨h3, vp_in_nI h5k h4⟩, ?_⟩
        rw [nI_clamp hkb, PL_sI h1 h2]
        exact hR _ _ _ _ h5
      · exact hs.elim
    · rename_i hi1 hi2
      have hkl : knownL ins = true := by
        unfold knL at hkn
        split at hkn
        · exact absurd rfl hi1
        · exact absurd rfl hi2
        · exact hkn
      have e1 := step_const (R := fun pc L st => Y w M θ0 κ0 Q QX kc ns pc L st (PL κ p l)) hkl (step_mono (R := fun pc L st _ => R pc L st l) hkl (fun pc L st _ z => hR pc L st l z) hs)
      exact step_mono hkl (fun pc L st κ' z => by rw [z.1]; exact z.2) e1
def runL (w : W0) (M : MI) (θ0 : Nat → Nat) (κ0 : AH) (Q : Option Value → AH → Prop) (QX : String → AH → Prop) (κ : AH) (p : Nat) (t : Nat → CE) (cut : Nat → Bool) : Nat → Nat → Nat → Nat → List (Option Value) → List Value → LSt → Prop
  | 0, kc, ns, pc, L, st, l => Y w M θ0 κ0 Q QX kc ns pc L st (PL κ p l)
  | n + 1, kc, ns, pc, L, st, l => cond (cut pc || !(knL (t pc).1)) (Y w M θ0 κ0 Q QX kc ns pc L st (PL κ p l)) (stepL w M Q QX κ p (fun pc L st l => runL w M θ0 κ0 Q QX κ p t cut n kc ns pc L st l) kc ns pc L st l (t pc))
theorem runL_ok {t : Nat → CE} (hk : RK M t) (cut : Nat → Bool) : ∀ (n kc ns pc : Nat) (L : List (Option Value)) (st : List Value) (l : LSt), runL w M θ0 κ0 Q QX κ p t cut n kc ns pc L st l → Y w M θ0 κ0 Q QX kc ns pc L st (PL κ p l)
  | 0, _, _, _, _, _, _, hs => hs
  | n + 1, kc, ns, pc, L, st, l, hs => by
    unfold runL at hs
    cases hc : (cut pc || !(knL (t pc).1)) with
    | true => rw [hc] at hs; exact hs
    | false =>
      rw [hc] at hs
      exact YL_step hk (fun pc L st l z => runL_ok hk cut n kc ns pc L st l z) (by
        cases hq : knL (t pc).1 with
        | true => rfl
        | false => rw [hq, Bool.not_false, Bool.or_true] at hc; cases hc) hs
theorem runL_go {t : Nat → CE} (hk : RK M t) (cut : Nat → Bool) (n : Nat) (hkn : knL (t pc).1 = true) (hs : stepL w M Q QX κ p (fun pc L st l => runL w M θ0 κ0 Q QX κ p t cut n kc ns pc L st l) kc ns pc L st l (t pc)) : Y w M θ0 κ0 Q QX kc ns pc L st (PL κ p l) :=
  YL_step hk (fun pc L st l z => runL_ok hk cut n kc ns pc L st l z) hkn hs
end LL

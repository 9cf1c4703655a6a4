
/-! THE MODEL'S EVALUATOR: its state is two functions (numbers by field, rows by field and place) -/
abbrev MS : Type := (Nat → Int32) × (Nat → Nat → Int32)
abbrev MV : Type := Int32 ⊕ Nat
def upS (σ : MS) (k : Nat) (v : Int32) : MS := (fun j => if j = k then v else σ.1 j, σ.2)
def upA (σ : MS) (k i : Nat) (v : Int32) : MS := (σ.1, fun j n => if j = k ∧ n = i then v else σ.2 j n)
/-- kinds and lengths of the model's rows, by field: 0 none -/
def mkd : Nat → Nat := fun k => match k with
  | 5 => 11
  | 9 => 11
  | 10 => 11
  | 11 => 11
  | 12 => 11
  | 13 => 11
  | 14 => 11
  | 15 => 11
  | 16 => 11
  | 17 => 11
  | 19 => 11
  | 20 => 12
  | 21 => 11
  | 22 => 11
  | 23 => 11
  | 24 => 11
  | 25 => 11
  | 26 => 12
  | 27 => 11
  | 28 => 11
  | 29 => 11
  | 31 => 11
  | 32 => 11
  | 33 => 11
  | _ => 0
def mlen : Nat → Nat := fun k => match k with
  | 5 => 4
  | 9 => 60
  | 10 => 60
  | 11 => 60
  | 12 => 60
  | 13 => 60
  | 14 => 60
  | 15 => 60
  | 16 => 60
  | 17 => 60
  | 19 => 100
  | 20 => 100
  | 21 => 100
  | 22 => 100
  | 23 => 100
  | 24 => 100
  | 25 => 36
  | 26 => 36
  | 27 => 36
  | 28 => 36
  | 29 => 36
  | 31 => 30
  | 32 => 1080
  | 33 => 36
  | _ => 0
/-- the heap with the model's object and rows as σ says: 'iv' tells of an address: 1 the object, k + 2 the row of field k, 0 neither -/
def PM (iv : Nat → Nat) (σ : MS) (h : AH) : AH := (h.1, h.2.1, fun a k => match iv a with
  | 0 => h.2.2.1 a k
  | 1 => σ.1 k
  | j + 2 => σ.2 j k, h.2.2.2.1, h.2.2.2.2)
theorem gI_PM {iv : Nat → Nat} {σ : MS} {h : AH} (a k : Nat) : gI (PM iv σ h) a k = match iv a with
  | 0 => gI h a k
  | 1 => σ.1 k
  | j + 2 => σ.2 j k := rfl
theorem gI_PM0 {iv : Nat → Nat} {σ : MS} {h : AH} {a : Nat} (hi : iv a = 0) (k : Nat) : gI (PM iv σ h) a k = gI h a k := by rw [gI_PM, hi]
def aa (h : AH) (m k : Nat) : Nat := (gR h m k).getD 0
def MOK (m : Nat) (iv : Nat → Nat) (h : AH) : Prop := gT h m = 10 ∧ iv m = 1 ∧ (∀ a, iv a = 1 → a = m) ∧ ∀ k, mkd k ≠ 0 → gR h m k = some (aa h m k) ∧ iv (aa h m k) = k + 2 ∧ gT h (aa h m k) = mkd k ∧ gN h (aa h m k) = mlen k ∧ ∀ a, iv a = k + 2 → a = aa h m k
theorem PM_S {m : Nat} {iv : Nat → Nat} {h : AH} (H : MOK m iv h) (σ : MS) (k : Nat) (v : Int32) : sI (PM iv σ h) m k v = PM iv (upS σ k v) h := by
  obtain ⟨-, h1, h2, -⟩ := H
  have e : (sI (PM iv σ h) m k v).2.2.1 = (PM iv (upS σ k v) h).2.2.1 := by
    funext a j
    show (if a = m ∧ j = k then v else gI (PM iv σ h) a j) = gI (PM iv (upS σ k v) h) a j
    rw [gI_PM, gI_PM]
    rcases hq : iv a with _ | _ | n
    · have : a ≠ m := fun z => by rw [z, h1] at hq; cases hq
      simp [this]
    · have : a = m := h2 a hq
      simp [this, upS]
    · have : a ≠ m := fun z => by rw [z, h1] at hq; omega
      simp [this, upS]
  exact congrArg (fun z => ((PM iv σ h).1, (PM iv σ h).2.1, z, (PM iv σ h).2.2.2)) e
theorem PM_A {m : Nat} {iv : Nat → Nat} {h : AH} (H : MOK m iv h) (σ : MS) {k : Nat} (hk : mkd k ≠ 0) (i : Nat) (v : Int32) : sI (PM iv σ h) (aa h m k) i v = PM iv (upA σ k i v) h := by
  obtain ⟨-, -, -, h3⟩ := H
  obtain ⟨-, h4, -, -, h5⟩ := h3 k hk
  have e : (sI (PM iv σ h) (aa h m k) i v).2.2.1 = (PM iv (upA σ k i v) h).2.2.1 := by
    funext a j
    show (if a = aa h m k ∧ j = i then v else gI (PM iv σ h) a j) = gI (PM iv (upA σ k i v) h) a j
    rw [gI_PM, gI_PM]
    rcases hq : iv a with _ | _ | n
    · have : a ≠ aa h m k := fun z => by rw [z, h4] at hq; omega
      simp [this]
    · have : a ≠ aa h m k := fun z => by rw [z, h4] at hq; omega
      simp [this, upA]
    · by_cases hn : n = k
      · subst hn
        have : a = aa h m n := h5 a hq
        simp [this, upA]
      · have : a ≠ aa h m k := fun z => by rw [z, h4] at hq; omega
        simp [this, upA, hn]
  exact congrArg (fun z => ((PM iv σ h).1, (PM iv σ h).2.1, z, (PM iv σ h).2.2.2)) e
def den (h : AH) (m : Nat) : MV → Value
  | .inl x => .int x
  | .inr 0 => .ref m
  | .inr (k + 1) => .ref (aa h m k)
theorem den_cat (h : AH) (m : Nat) (v : MV) : (den h m v).category = 1 := by
  rcases v with x | _ | k <;> rfl
def lfQ (iv : Nat → Nat) (h : AH) (Q : Option Int32 → MS → Prop) : Option Value → AH → Prop := fun v h' => ∃ r σ', v = r.map Value.int ∧ h' = PM iv σ' h ∧ Q r σ'
def XM (w : W0) (M : MI) (m : Nat) (iv : Nat → Nat) (h : AH) (Q : Option Int32 → MS → Prop) (pc : Nat) (L : List (Option MV)) (st : List MV) (σ : MS) : Prop :=
  X w M (lfQ iv h Q) (fun _ _ => False) 0 0 pc (L.map (Option.map (den h m))) (st.map (den h m)) (PM iv σ h)
def lgetM : List (Option MV) → Nat → (MV → Prop) → Prop
  | [], _, _ => False
  | some v :: _, 0, K => K v
  | none :: _, 0, _ => False
  | some _ :: r, i + 1, K => lgetM r i K
  | none :: r, i + 1, K => lgetM r i K
def lputM : List (Option MV) → Nat → MV → (List (Option MV) → Prop) → Prop
  | [], _, _, _ => False
  | _ :: r, 0, v, K => K (some v :: r)
  | x :: r, i + 1, v, K => lputM r i v (fun r' => K (x :: r'))
theorem lgetM_ok : ∀ (L : List (Option MV)) (i : Nat) (K : MV → Prop), lgetM L i K → ∃ v, L[i]? = some (some v) ∧ K v
  | [], _, _, h => h.elim
  | some v :: _, 0, _, h => ⟨v, rfl, h⟩
  | none :: _, 0, _, h => h.elim
  | some _ :: r, i + 1, K, h => by
    obtain ⟨v, h1, h2⟩ := lgetM_ok r i K h
    exact ⟨v, by simpa using h1, h2⟩
  | none :: r, i + 1, K, h => by
    obtain ⟨v, h1, h2⟩ := lgetM_ok r i K h
    exact ⟨v, by simpa using h1, h2⟩
theorem lputM_ok : ∀ (L : List (Option MV)) (i : Nat) (v : MV) (K : List (Option MV) → Prop), lputM L i v K → i < L.length ∧ K (L.set i (some v))
  | [], _, _, _, h => h.elim
  | _ :: r, 0, v, K, h => ⟨by simp, h⟩
  | x :: r, i + 1, v, K, h => by
    obtain ⟨h1, h2⟩ := lputM_ok r i v (fun r' => K (x :: r')) h
    exact ⟨by simpa using h1, h2⟩
def stepM (w : W0) (M : MI) (m : Nat) (iv : Nat → Nat) (h : AH) (Q : Option Int32 → MS → Prop) (R : Nat → List (Option MV) → List MV → MS → Prop) (pc : Nat) (L : List (Option MV)) (st : List MV) (σ : MS) (e : CE) : Prop :=
  match e with
  | (ins, nx, a, b, d, c) => match ins with
    | .iconst n => R nx L (.inl c :: st) σ
    | .bipush n => R nx L (.inl c :: st) σ
    | .sipush n => R nx L (.inl c :: st) σ
    | .iload_n i => lgetM L i.val (fun v => match v with | .inl x => R nx L (.inl x :: st) σ | _ => False)
    | .iload i => lgetM L i (fun v => match v with | .inl x => R nx L (.inl x :: st) σ | _ => False)
    | .aload_n i => lgetM L i.val (fun v => match v with | .inr 0 => R nx L (.inr 0 :: st) σ | _ => False)
    | .aload i => lgetM L i (fun v => match v with | .inr 0 => R nx L (.inr 0 :: st) σ | _ => False)
    | .istore_n i => match st with | .inl x :: st' => lputM L i.val (.inl x) (fun L' => R nx L' st' σ) | _ => False
    | .istore i => match st with | .inl x :: st' => lputM L i (.inl x) (fun L' => R nx L' st' σ) | _ => False
    | .iinc i n => lgetM L i (fun v => match v with | .inl x => lputM L i (.inl (x + c)) (fun L' => R nx L' st σ) | _ => False)
    | .iadd => match st with | .inl y :: .inl x :: st' => R nx L (.inl (x + y) :: st') σ | _ => False
    | .isub => match st with | .inl y :: .inl x :: st' => R nx L (.inl (x - y) :: st') σ | _ => False
    | .imul => match st with | .inl y :: .inl x :: st' => R nx L (.inl (x * y) :: st') σ | _ => False
    | .iand => match st with | .inl y :: .inl x :: st' => R nx L (.inl (x &&& y) :: st') σ | _ => False
    | .ior => match st with | .inl y :: .inl x :: st' => R nx L (.inl (x ||| y) :: st') σ | _ => False
    | .iushr => match st with | .inl y :: .inl x :: st' => R nx L (.inl ((x.toUInt32 >>> (y.toUInt32 &&& Int32.toUInt32 31)).toInt32) :: st') σ | _ => False
    | .idiv => match st with | .inl y :: .inl x :: st' => (¬ y = 0) ∧ R nx L (.inl (x / y) :: st') σ | _ => False
    | .irem => match st with | .inl y :: .inl x :: st' => (¬ y = 0) ∧ R nx L (.inl (x - x / y * y) :: st') σ | _ => False
    | .ineg => match st with | .inl x :: st' => R nx L (.inl (-x) :: st') σ | _ => False
    | .dup => match st with | v :: st' => R nx L (v :: v :: st') σ | _ => False
    | .dup2 => match st with | v :: u :: st' => R nx L (v :: u :: v :: u :: st') σ | _ => False
    | .pop => match st with | _ :: st' => R nx L st' σ | _ => False
    | .if_icmp cn off => match st with | .inl y :: .inl x :: st' => (match cn with | .eq => (x = y → R a L st' σ) ∧ (¬ x = y → R nx L st' σ) | .ne => (¬ x = y → R a L st' σ) ∧ (x = y → R nx L st' σ) | .lt => (x < y → R a L st' σ) ∧ (¬ x < y → R nx L st' σ) | .ge => (y ≤ x → R a L st' σ) ∧ (¬ y ≤ x → R nx L st' σ) | .gt => (y < x → R a L st' σ) ∧ (¬ y < x → R nx L st' σ) | .le => (x ≤ y → R a L st' σ) ∧ (¬ x ≤ y → R nx L st' σ)) | _ => False
    | .ifCond cn off => match st with | .inl x :: st' => (match cn with | .eq => (x = 0 → R a L st' σ) ∧ (¬ x = 0 → R nx L st' σ) | .ne => (¬ x = 0 → R a L st' σ) ∧ (x = 0 → R nx L st' σ) | .lt => (x < 0 → R a L st' σ) ∧ (¬ x < 0 → R nx L st' σ) | .ge => (0 ≤ x → R a L st' σ) ∧ (¬ 0 ≤ x → R nx L st' σ) | .gt => (0 < x → R a L st' σ) ∧ (¬ 0 < x → R nx L st' σ) | .le => (x ≤ 0 → R a L st' σ) ∧ (¬ x ≤ 0 → R nx L st' σ)) | _ => False
    | .goto off => R a L st σ
    | .getfield idx => match st with | .inr 0 :: st' => cond (Nat.beq a 9) (match d with | 0 => R nx L (.inl (σ.1 b) :: st') σ | 1 => cond (Nat.beq (mkd b) 0) False (R nx L (.inr (b + 1) :: st') σ) | _ => False) False | _ => False
    | .putfield idx => match st with | .inl v :: .inr 0 :: st' => cond (Nat.beq a 9) (match d with | 0 => R nx L st' (upS σ b v) | 1 => (v = 0 ∨ v = 1) ∧ R nx L st' (upS σ b v) | _ => False) False | _ => False
    | .iaload => match st with | .inl i :: .inr (k + 1) :: st' => cond (Nat.beq (mkd k) 11) (vp_in i (mlen k) ∧ R nx L (.inl (σ.2 k i.toNatClampNeg) :: st') σ) False | _ => False
    | .baload => match st with | .inl i :: .inr (k + 1) :: st' => cond (Nat.beq (mkd k) 12) (vp_in i (mlen k) ∧ R nx L (.inl (σ.2 k i.toNatClampNeg) :: st') σ) False | _ => False
    | .iastore => match st with | .inl x :: .inl i :: .inr (k + 1) :: st' => cond (Nat.beq (mkd k) 11) ((vp_in i (mlen k)) ∧ R nx L st' (upA σ k i.toNatClampNeg x)) False | _ => False
    | .bastore => match st with | .inl x :: .inl i :: .inr (k + 1) :: st' => cond (Nat.beq (mkd k) 12) ((vp_in i (mlen k) ∧ (x = 0 ∨ x = 1)) ∧ R nx L st' (upA σ k i.toNatClampNeg x)) False | _ => False
    | .ireturn => match st with | [.inl v] => (match M.rt with | some .int => Q (some v) σ | some .boolean => (v = 0 ∨ v = 1) ∧ Q (some v) σ | _ => False) | _ => False
    | .return_ => match st with | [] => (match M.rt with | none => Q none σ | _ => False) | _ => False
    | _ => XM w M m iv h Q pc L st σ
def runM (w : W0) (M : MI) (m : Nat) (iv : Nat → Nat) (h : AH) (Q : Option Int32 → MS → Prop) (t : Nat → CE) (cut : Nat → Bool) : Nat → Nat → List (Option MV) → List MV → MS → Prop
  | 0, pc, L, st, σ => XM w M m iv h Q pc L st σ
  | n + 1, pc, L, st, σ => cond (cut pc) (XM w M m iv h Q pc L st σ) (stepM w M m iv h Q (fun pc L st σ => runM w M m iv h Q t cut n pc L st σ) pc L st σ (t pc))
section RUNM
variable {w : W0} {M : MI} {m : Nat} {iv : Nat → Nat} {h : AH} {Q : Option Int32 → MS → Prop} {pc : Nat} {L : List (Option MV)} {st : List MV} {σ : MS}
theorem Lm_get {i : Nat} {v : MV} (hi : L[i]? = some (some v)) : (L.map (Option.map (den h m)))[i]? = some (some (den h m v)) := by
  rw [List.getElem?_map, hi]; rfl
theorem Lm_set {i : Nat} {v : MV} : (L.set i (some v)).map (Option.map (den h m)) = (L.map (Option.map (den h m))).set i (some (den h m v)) := by
  rw [List.map_set]; rfl
theorem stepM_ok {t : Nat → CE} (hk : RK M t) (hm : MOK m iv h) {R : Nat → List (Option MV) → List MV → MS → Prop} (hR : ∀ pc L st σ, R pc L st σ → XM w M m iv h Q pc L st σ) (hs : stepM w M m iv h Q R pc L st σ (t pc)) : XM w M m iv h Q pc L st σ := by
  obtain ⟨gl, pl, hg, hp, ho⟩ := hk.at pc
  generalize t pc = e at hs ho
  obtain ⟨ins, nx, a, b, d, c⟩ := e
  unfold stepM at hs
  dsimp only at hs
  by_cases hkn : known ins = true
  · simp only [eok, hkn, Bool.not_true, Bool.false_or, Bool.and_eq_true, decide_eq_true_eq] at ho
    obtain ⟨⟨hd, rfl⟩, ho⟩ := ho
    cases ins
    all_goals first | exact absurd hkn Bool.false_ne_true | skip
    all_goals dsimp only at hs ho
    all_goals try simp only [decide_eq_true_eq, Bool.and_eq_true] at ho
    case iconst n =>
      subst ho
      exact x_iconst hd (hR _ _ _ _ hs)
    case bipush n =>
      subst ho
      exact x_bipush hd (hR _ _ _ _ hs)
    case sipush n =>
      subst ho
      exact x_sipush hd (hR _ _ _ _ hs)
    case iload_n i =>
      obtain ⟨v, h1, h2⟩ := lgetM_ok _ _ _ hs
      rcases v with x | k
      · exact x_iload_n hd (Lm_get h1) (hR _ _ _ _ h2)
      · exact h2.elim
    case iload i =>
      obtain ⟨v, h1, h2⟩ := lgetM_ok _ _ _ hs
      rcases v with x | k
      · exact x_iload hd (Lm_get h1) (hR _ _ _ _ h2)
      · exact h2.elim
    case aload_n i =>
      obtain ⟨v, h1, h2⟩ := lgetM_ok _ _ _ hs
      rcases v with x | _ | k
      · exact h2.elim
      · exact x_aload_n hd (Lm_get h1) (hR _ _ _ _ h2)
      · exact h2.elim
    case aload i =>
      obtain ⟨v, h1, h2⟩ := lgetM_ok _ _ _ hs
      rcases v with x | _ | k
      · exact h2.elim
      · exact x_aload hd (Lm_get h1) (hR _ _ _ _ h2)
      · exact h2.elim
    case istore_n i =>
      split at hs
      · obtain ⟨h1, h2⟩ := lputM_ok _ _ _ _ hs
        have h3 := hR _ _ _ _ h2
        unfold XM at h3
        rw [Lm_set] at h3
        exact X.loc fun hl => x_istore_n hd (by rw [← hl, List.length_map]; exact h1) h3
      · exact hs.elim
    case istore i =>
      split at hs
      · obtain ⟨h1, h2⟩ := lputM_ok _ _ _ _ hs
        have h3 := hR _ _ _ _ h2
        unfold XM at h3
        rw [Lm_set] at h3
        exact X.loc fun hl => x_istore hd (by rw [← hl, List.length_map]; exact h1) h3
      · exact hs.elim
    case iinc i n =>
      subst ho
      obtain ⟨v, h1, h2⟩ := lgetM_ok _ _ _ hs
      rcases v with x | k
      · obtain ⟨-, h4⟩ := lputM_ok _ _ _ _ h2
        have h3 := hR _ _ _ _ h4
        unfold XM at h3
        rw [Lm_set] at h3
        exact x_iinc hd (Lm_get h1) h3
      · exact h2.elim
    case iadd  =>
      split at hs
      · exact x_iadd hd (hR _ _ _ _ hs)
      · exact hs.elim
    case isub  =>
      split at hs
      · exact x_isub hd (hR _ _ _ _ hs)
      · exact hs.elim
    case imul  =>
      split at hs
      · exact x_imul hd (hR _ _ _ _ hs)
      · exact hs.elim
    case iand  =>
      split at hs
      · exact x_iand hd (hR _ _ _ _ hs)
      · exact hs.elim
    case ior  =>
      split at hs
      · exact x_ior hd (hR _ _ _ _ hs)
      · exact hs.elim
    case iushr  =>
      split at hs
      · exact x_iushr hd (hR _ _ _ _ hs)
      · exact hs.elim
    case idiv  =>
      split at hs
      · exact x_idiv hd hs.1 (hR _ _ _ _ hs.2)
      · exact hs.elim
    case irem  =>
      split at hs
      · exact x_irem hd hs.1 (hR _ _ _ _ hs.2)
      · exact hs.elim
    case ineg  =>
      split at hs
      · exact x_ineg hd (hR _ _ _ _ hs)
      · exact hs.elim
    case dup  =>
      split at hs
      · exact x_dup hd (den_cat _ _ _) (hR _ _ _ _ hs)
      · exact hs.elim
    case dup2  =>
      split at hs
      · exact x_dup2 hd (den_cat _ _ _) (den_cat _ _ _) (hR _ _ _ _ hs)
      · exact hs.elim
    case pop  =>
      split at hs
      · exact x_pop hd (den_cat _ _ _) (hR _ _ _ _ hs)
      · exact hs.elim
    case if_icmp cn off =>
      split at hs
      · cases cn
        case eq => exact x_icmp_eq hd ho (fun z => hR _ _ _ _ (hs.1 z)) (fun z => hR _ _ _ _ (hs.2 z))
        case ne => exact x_icmp_ne hd ho (fun z => hR _ _ _ _ (hs.1 z)) (fun z => hR _ _ _ _ (hs.2 z))
        case lt => exact x_icmp_lt hd ho (fun z => hR _ _ _ _ (hs.1 z)) (fun z => hR _ _ _ _ (hs.2 z))
        case ge => exact x_icmp_ge hd ho (fun z => hR _ _ _ _ (hs.1 z)) (fun z => hR _ _ _ _ (hs.2 z))
        case gt => exact x_icmp_gt hd ho (fun z => hR _ _ _ _ (hs.1 z)) (fun z => hR _ _ _ _ (hs.2 z))
        case le => exact x_icmp_le hd ho (fun z => hR _ _ _ _ (hs.1 z)) (fun z => hR _ _ _ _ (hs.2 z))
      · exact hs.elim
    case ifCond cn off =>
      split at hs
      · cases cn
        case eq => exact x_if_eq hd ho (fun z => hR _ _ _ _ (hs.1 z)) (fun z => hR _ _ _ _ (hs.2 z))
        case ne => exact x_if_ne hd ho (fun z => hR _ _ _ _ (hs.1 z)) (fun z => hR _ _ _ _ (hs.2 z))
        case lt => exact x_if_lt hd ho (fun z => hR _ _ _ _ (hs.1 z)) (fun z => hR _ _ _ _ (hs.2 z))
        case ge => exact x_if_ge hd ho (fun z => hR _ _ _ _ (hs.1 z)) (fun z => hR _ _ _ _ (hs.2 z))
        case gt => exact x_if_gt hd ho (fun z => hR _ _ _ _ (hs.1 z)) (fun z => hR _ _ _ _ (hs.2 z))
        case le => exact x_if_le hd ho (fun z => hR _ _ _ _ (hs.1 z)) (fun z => hR _ _ _ _ (hs.2 z))
      · exact hs.elim
    case goto off =>
      exact x_goto hd ho (hR _ _ _ _ hs)
    case getfield idx =>
      split at hs
      · rename_i st'
        cases ha : Nat.beq a 9 with
        | false => rw [ha] at hs; exact hs.elim
        | true =>
          rw [ha] at hs
          have ha9 : a = 9 := Nat.eq_of_beq_eq_true ha
          subst ha9
          have hf := hg _ ho.1
          have hc := ho.2
          have ht : gT (PM iv σ h) m = 9 + 1 := hm.1
          simp only [cond_true] at hs
          split at hs
          · have h3 := hR _ _ _ _ hs
            have e : gI (PM iv σ h) m b = σ.1 b := by rw [gI_PM, hm.2.1]
            refine x_getI hd hf hc ht ?_
            rw [e]
            exact h3
          · cases hb : Nat.beq (mkd b) 0 with
            | true => rw [hb] at hs; exact hs.elim
            | false =>
              rw [hb] at hs
              have hb0 : mkd b ≠ 0 := Nat.ne_of_beq_eq_false hb
              have h3 := hR _ _ _ _ hs
              refine x_getR hd hf hc ht ?_
              rw [show gR (PM iv σ h) m b = some (aa h m b) from (hm.2.2.2 b hb0).1]
              exact h3
          · exact hs.elim
      · exact hs.elim
    case putfield idx =>
      split at hs
      · rename_i v st'
        cases ha : Nat.beq a 9 with
        | false => rw [ha] at hs; exact hs.elim
        | true =>
          rw [ha] at hs
          have ha9 : a = 9 := Nat.eq_of_beq_eq_true ha
          subst ha9
          have hf := hp _ ho.1
          have ht : gT (PM iv σ h) m = 9 + 1 := hm.1
          simp only [cond_true] at hs
          split at hs
          · have h3 := hR _ _ _ _ hs
            refine x_putI hd hf.1 hf.2 ht ?_
            rw [PM_S hm]
            exact h3
          · have h3 := hR _ _ _ _ hs.2
            refine x_putZ hd hf.1 hf.2 ht hs.1 ?_
            rw [PM_S hm]
            exact h3
          · exact hs.elim
      · exact hs.elim
    case iaload  =>
      split at hs
      · rename_i i k st'
        cases ha : Nat.beq (mkd k) 11 with
        | false => rw [ha] at hs; exact hs.elim
        | true =>
          rw [ha] at hs
          have ha9 : mkd k = 11 := Nat.eq_of_beq_eq_true ha
          obtain ⟨-, g1, g2, g3, -⟩ := hm.2.2.2 k (by rw [ha9]; decide)
          have h3 := hR _ _ _ _ hs.2
          have e : gI (PM iv σ h) (aa h m k) i.toNatClampNeg = σ.2 k i.toNatClampNeg := by rw [gI_PM, g1]
          refine x_iald (a := aa h m k) hd (show gT h _ = 11 from g2.trans ha9) (by show vp_in i (gN h _); rw [g3]; exact hs.1) ?_
          rw [e]
          exact h3
      · exact hs.elim
    case baload  =>
      split at hs
      · rename_i i k st'
        cases ha : Nat.beq (mkd k) 12 with
        | false => rw [ha] at hs; exact hs.elim
        | true =>
          rw [ha] at hs
          have ha9 : mkd k = 12 := Nat.eq_of_beq_eq_true ha
          obtain ⟨-, g1, g2, g3, -⟩ := hm.2.2.2 k (by rw [ha9]; decide)
          have h3 := hR _ _ _ _ hs.2
          have e : gI (PM iv σ h) (aa h m k) i.toNatClampNeg = σ.2 k i.toNatClampNeg := by rw [gI_PM, g1]
          refine x_zald (a := aa h m k) hd (show gT h _ = 12 from g2.trans ha9) (by show vp_in i (gN h _); rw [g3]; exact hs.1) ?_
          rw [e]
          exact h3
      · exact hs.elim
    case iastore  =>
      split at hs
      · rename_i x i k st'
        cases ha : Nat.beq (mkd k) 11 with
        | false => rw [ha] at hs; exact hs.elim
        | true =>
          rw [ha] at hs
          have ha9 : mkd k = 11 := Nat.eq_of_beq_eq_true ha
          have hk0 : mkd k ≠ 0 := by rw [ha9]; decide
          obtain ⟨-, g1, g2, g3, -⟩ := hm.2.2.2 k hk0
          have h3 := hR _ _ _ _ hs.2
          refine x_iast (a := aa h m k) hd (show gT h _ = 11 from g2.trans ha9) (by show vp_in i (gN h _); rw [g3]; exact hs.1) ?_
          rw [PM_A hm _ hk0]
          exact h3
      · exact hs.elim
    case bastore  =>
      split at hs
      · rename_i x i k st'
        cases ha : Nat.beq (mkd k) 12 with
        | false => rw [ha] at hs; exact hs.elim
        | true =>
          rw [ha] at hs
          have ha9 : mkd k = 12 := Nat.eq_of_beq_eq_true ha
          have hk0 : mkd k ≠ 0 := by rw [ha9]; decide
          obtain ⟨-, g1, g2, g3, -⟩ := hm.2.2.2 k hk0
          have h3 := hR _ _ _ _ hs.2
          refine x_zast (a := aa h m k) hd (show gT h _ = 12 from g2.trans ha9) (by show vp_in i (gN h _); rw [g3]; exact hs.1.1) hs.1.2 ?_
          rw [PM_A hm _ hk0]
          exact h3
      · exact hs.elim
    case ireturn  =>
      split at hs
      · split at hs
        · rename_i hrt
          exact x_iret hd hrt (Nat.zero_le _) (Nat.zero_le _) ⟨some _, σ, rfl, rfl, hs⟩
        · rename_i hrt
          exact x_zret hd hrt hs.1 (Nat.zero_le _) (Nat.zero_le _) ⟨some _, σ, rfl, rfl, hs.2⟩
        · exact hs.elim
      · exact hs.elim
    case return_  =>
      split at hs
      · split at hs
        · rename_i hrt
          exact x_vret hd hrt (Nat.zero_le _) (Nat.zero_le _) ⟨none, σ, rfl, rfl, hs⟩
        · exact hs.elim
      · exact hs.elim
    all_goals exact hs
  · cases ins
    all_goals first | exact hs | exact absurd rfl hkn
theorem runM_ok {t : Nat → CE} (hk : RK M t) (hm : MOK m iv h) (cut : Nat → Bool) : ∀ (n pc : Nat) (L : List (Option MV)) (st : List MV) (σ : MS), runM w M m iv h Q t cut n pc L st σ → XM w M m iv h Q pc L st σ
  | 0, _, _, _, _, hs => hs
  | n + 1, pc, L, st, σ, hs => by
    unfold runM at hs
    cases hc : cut pc with
    | true => rw [hc] at hs; exact hs
    | false =>
      rw [hc] at hs
      exact stepM_ok hk hm (fun pc L st σ z => runM_ok hk hm cut n pc L st σ z) hs
theorem runM_go {t : Nat → CE} (hk : RK M t) (hm : MOK m iv h) (cut : Nat → Bool) (n : Nat) (hs : stepM w M m iv h Q (fun pc L st σ => runM w M m iv h Q t cut n pc L st σ) pc L st σ (t pc)) : XM w M m iv h Q pc L st σ :=
  stepM_ok hk hm (fun pc L st σ z => runM_ok hk hm cut n pc L st σ z) hs
/-- a contract of a method of the model -/
def CM (w : W0) (y : MethodName) (M : MI) (m : Nat) (iv : Nat → Nat) (h : AH) (as : List Int32) (σ : MS) (Q : Option Int32 → MS → Prop) : Prop := Cn w y M (.ref m :: as.map Value.int) (PM iv σ h) (lfQ iv h Q)
theorem CM_of {y : MethodName} {n : Nat} {as : List Int32} (hc : MC y M n) (hl : as.length + 1 ≤ M.ml) (hX : XM w M m iv h Q 0 (some (.inr 0) :: as.map (fun x => some (.inl x)) ++ List.replicate (M.ml - (as.length + 1)) none) [] σ) : CM w y M m iv h as σ Q := by
  refine Cn_of hc (by simpa using hl) (fun v hv => ?_) ?_
  · rcases List.mem_cons.mp hv with rfl | hv
    · rfl
    · obtain ⟨x, -, rfl⟩ := List.mem_map.mp hv
      rfl
  · have e : (List.map some (Value.ref m :: as.map Value.int) ++ List.replicate (M.ml - (Value.ref m :: as.map Value.int).length) none) = (some (.inr 0) :: as.map (fun x => some (.inl x)) ++ List.replicate (M.ml - (as.length + 1)) none : List (Option MV)).map (Option.map (den h m)) := by
      simp only [List.map_cons, List.map_append, List.map_map, List.length_cons, List.length_map, List.map_replicate, List.cons_append]
      rfl
    rw [e]
    exact hX
theorem xm_callV {idx n : Nat} {y : MethodName} {M' : MI} {as : List Int32} {Q' : Option Int32 → MS → Prop} (hm : MOK m iv h) (hd : decode M.cd pc = .ok (.invokevirtual idx, 3)) (hlk : LkV M.ow idx y) (hc : MC y M' n) (hf : Fit M' M) (hy : y.cls = RX9) (hn : as.length = n) (hst : st.length ≤ 8) (h0 : M'.rm.cells = 0) (h1 : M'.rm.slots = 0)
    (hc2 : CM w y M' m iv h as σ Q') (k : ∀ r σ', Q' r σ' → XM w M m iv h Q (pc + 3) L (r.toList.map .inl ++ st) σ') : XM w M m iv h Q pc L ((as.map .inl).reverse ++ .inr 0 :: st) σ := by
  have e : ((as.map .inl).reverse ++ .inr 0 :: st : List MV).map (den h m) = (as.map Value.int).reverse ++ .ref m :: st.map (den h m) := by
    simp only [List.map_append, List.map_reverse, List.map_map, List.map_cons]
    rfl
  unfold XM
  rw [e]
  have hsum : ((st.map (den h m)).map fun v => v.category).sum ≤ 8 := by
    have : (st.map (den h m)).map (fun v => v.category) = List.replicate st.length 1 := by
      rw [List.map_map]
      apply List.ext_getElem (by simp)
      intro i h1 h2
      simp [den_cat]
    rw [this, List.sum_replicate_nat]
    omega
  refine x_callV (Cl := RX9) (y := y) (M' := M') (as := as.map Value.int) (ci := 9) hd hlk hc hf (by rw [hy]; exact ciX9) (by simpa using hn) hsum (by rw [h0]; exact Nat.zero_le _) (by rw [h1]; exact Nat.zero_le _) (show gT h m = 9 + 1 from hm.1) hc2 (fun v h' hq => ?_)
  obtain ⟨r, σ', rfl, rfl, hq⟩ := hq
  have hk := k r σ' hq
  rw [h0, h1]
  unfold XM at hk
  have e2 : (r.toList.map .inl ++ st : List MV).map (den h m) = (r.map Value.int).toList ++ st.map (den h m) := by
    cases r <;> rfl
  rw [e2] at hk
  exact hk
theorem xm_callS {idx n : Nat} {y : MethodName} {M' : MI} {as : List Int32} {Q' : Option Value → AH → Prop} (hd : decode M.cd pc = .ok (.invokestatic idx, 3)) (hlk : LkS M.ow idx y) (hc : MC y M' n) (hf : Fit M' M) (hn : as.length = n) (hst : st.length ≤ 8) (h0 : M'.rm.cells = 0) (h1 : M'.rm.slots = 0)
    (hc2 : Cn w y M' (as.map Value.int) (PM iv σ h) Q') (k : ∀ v h', Q' v h' → ∃ r : Int32, v = some (.int r) ∧ h' = PM iv σ h ∧ XM w M m iv h Q (pc + 3) L (.inl r :: st) σ) : XM w M m iv h Q pc L ((as.map .inl).reverse ++ st) σ := by
  have e : ((as.map .inl).reverse ++ st : List MV).map (den h m) = (as.map Value.int).reverse ++ st.map (den h m) := by
    simp only [List.map_append, List.map_reverse, List.map_map]
    rfl
  unfold XM
  rw [e]
  have hsum : ((st.map (den h m)).map fun v => v.category).sum ≤ 8 := by
    have : (st.map (den h m)).map (fun v => v.category) = List.replicate st.length 1 := by
      rw [List.map_map]
      apply List.ext_getElem (by simp)
      intro i h1 h2
      simp [den_cat]
    rw [this, List.sum_replicate_nat]
    omega
  refine x_callS (y := y) (M' := M') (as := as.map Value.int) hd hlk hc hf (by simpa using hn) hsum (by rw [h0]; exact Nat.zero_le _) (by rw [h1]; exact Nat.zero_le _) hc2 (fun v h' hq => ?_)
  obtain ⟨r, rfl, rfl, hk⟩ := k v h' hq
  rw [h0, h1]
  exact hk
end RUNM

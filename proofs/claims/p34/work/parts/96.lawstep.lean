
/-! THE LAW'S JUDGEMENT YS: its script lies outside our world; our tag tM 40 stands for it -/
theorem RN_up {θ : Nat → Nat} {κ H : AH} {t q : Nat} (hN : RN θ κ H) (ht : gT κ t = 0) : RN (upN θ t q) κ H := by
  obtain ⟨h1, h2, h3, h4⟩ := hN
  have hne : ∀ x, gT κ x ≠ 0 → x ≠ t := fun x hx e => hx (by rw [e]; exact ht)
  refine ⟨fun x hx => ?_, fun x u hx hu => ?_, fun a ha => ?_, h4⟩
  · rw [upN_n (hne x hx)]
    obtain ⟨a, b, c, d, e⟩ := h1 x hx
    refine ⟨a, b, c, fun k => ?_, e⟩
    rw [d k]
    cases hr : gR κ x k with
    | none => rfl
    | some b => exact congrArg some (upN_n (hne b (h4 x k b hx hr))).symm
  · rw [upN_n (hne x hx), upN_n (hne u hu)]
    exact h2 x u hx hu
  · obtain ⟨x, hx, e⟩ := h3 a ha
    exact ⟨x, hx, by rw [upN_n (hne x hx)]; exact e⟩
def okVS (κ : AH) (v : Value) : Prop := v = .ref (tM 40) ∨ okV κ v
def okLS (κ : AH) (L : List (Option Value)) : Prop := ∀ v, some v ∈ L → okVS κ v
def okKS (κ : AH) (st : List Value) : Prop := ∀ v ∈ st, okVS κ v
theorem okKS_cons {κ : AH} {v : Value} {st : List Value} (hv : okVS κ v) (hs : okKS κ st) : okKS κ (v :: st) := fun x hx => (List.mem_cons.mp hx).elim (fun e => e ▸ hv) (hs x)
theorem okKS_tl {κ : AH} {v : Value} {st : List Value} (hs : okKS κ (v :: st)) : okKS κ st := fun x hx => hs x (List.mem_cons_of_mem _ hx)
theorem okKS_hd {κ : AH} {v : Value} {st : List Value} (hs : okKS κ (v :: st)) : okVS κ v := hs v List.mem_cons_self
theorem okS_i {κ : AH} {x : Int32} : okVS κ (.int x) := Or.inr trivial
theorem okS_l {κ : AH} {x : Int64} : okVS κ (.long x) := Or.inr trivial
theorem lgetS_rn {κ : AH} {θ : Nat → Nat} : ∀ {L : List (Option Value)} {i : Nat} {K K' : Value → Prop}, okLS κ L → lget L i K → (∀ v, okVS κ v → K v → K' (rnV θ v)) → lget (rnL θ L) i K'
  | [], _, _, _, _, h, _ => h.elim
  | some v :: _, 0, _, _, hL, h, hk => hk v (hL v List.mem_cons_self) h
  | none :: _, 0, _, _, _, h, _ => h.elim
  | some _ :: r, i + 1, K, K', hL, h, hk => lgetS_rn (L := r) (i := i) (fun v hv => hL v (List.mem_cons_of_mem _ hv)) h hk
  | none :: r, i + 1, K, K', hL, h, hk => lgetS_rn (L := r) (i := i) (fun v hv => hL v (List.mem_cons_of_mem _ hv)) h hk
theorem lputS_rn {κ : AH} {θ : Nat → Nat} : ∀ {L : List (Option Value)} {i : Nat} {v : Value} {K K' : List (Option Value) → Prop}, okVS κ v → okLS κ L → lput L i v K → (∀ L', okLS κ L' → K L' → K' (rnL θ L')) → lput (rnL θ L) i (rnV θ v) K'
  | [], _, _, _, _, _, _, h, _ => h.elim
  | _ :: r, 0, v, K, K', hv, hL, h, hk => hk (some v :: r) (fun x hx => (List.mem_cons.mp hx).elim (fun e => by cases e; exact hv) (fun z => hL x (List.mem_cons_of_mem _ z))) h
  | y :: r, i + 1, v, K, K', hv, hL, h, hk => lputS_rn (L := r) (i := i) (K' := fun r' => K' (Option.map (rnV θ) y :: r')) hv (fun x hx => hL x (List.mem_cons_of_mem _ hx)) h
      (fun L' hL' z => hk (y :: L') (fun x hx => (List.mem_cons.mp hx).elim (fun e => by cases e; exact hL x List.mem_cons_self) (hL' x)) z)
def YS (w : W0) (Qv : Option Value → Prop) (kc ns pc : Nat) (L : List (Option Value)) (st : List Value) (κ : AH) : Prop :=
  ∀ θ H, RN θ κ H → θ (tM 40) = w.aX → okLS κ L → okKS κ st → X w mL_law (fun v _ => Qv v) (fun _ _ => False) kc ns pc (rnL θ L) (st.map (rnV θ)) H
def knownS : Instr → Bool
  | .iconst _ => true
  | .bipush _ => true
  | .sipush _ => true
  | .iload _ => true
  | .iload_n _ => true
  | .aload _ => true
  | .aload_n _ => true
  | .istore _ => true
  | .istore_n _ => true
  | .astore _ => true
  | .astore_n _ => true
  | .iinc _ _ => true
  | .iadd => true
  | .isub => true
  | .imul => true
  | .irem => true
  | .if_icmp _ _ => true
  | .ifCond _ _ => true
  | .goto _ => true
  | .dup => true
  | .iaload => true
  | .iastore => true
  | .ireturn => true
  | _ => false
def stepS (w : W0) (Qv : Option Value → Prop) (R : Nat → List (Option Value) → List Value → AH → Prop) (kc ns pc : Nat) (L : List (Option Value)) (st : List Value) (κ : AH) (e : CE) : Prop :=
  step w mL_law (fun v _ => Qv v) (fun _ _ => False) R kc ns pc L st κ e
section YSS
variable {w : W0} {Qv : Option Value → Prop} {kc ns pc : Nat} {L : List (Option Value)} {st : List Value} {κ : AH}
theorem YS_step {R : Nat → List (Option Value) → List Value → AH → Prop} (hR : ∀ pc L st κ, R pc L st κ → YS w Qv kc ns pc L st κ) (hkn : knownS (tL_law pc).1 = true) (hs : stepS w Qv R kc ns pc L st κ (tL_law pc)) : YS w Qv kc ns pc L st κ := by
  intro θ H hN hX hL hS
  refine step_ok rkL_law (R := fun pc L st h => X w mL_law (fun v _ => Qv v) (fun _ _ => False) kc ns pc L st h) (fun _ _ _ _ z => z) ?_
  unfold stepS at hs
  generalize tL_law pc = e at hs hkn
  obtain ⟨ins, nx, a, b, d, c⟩ := e
  dsimp only at hs hkn
  have h1 := hN.1
  cases ins
  all_goals first | exact absurd hkn Bool.false_ne_true | skip
  all_goals unfold step at hs ⊢
  all_goals dsimp only at hs ⊢
  case iconst n =>
    exact hR _ _ _ _ hs θ H hN hX hL (okKS_cons okS_i hS)
  case bipush n =>
    exact hR _ _ _ _ hs θ H hN hX hL (okKS_cons okS_i hS)
  case iload_n i =>
    refine lgetS_rn hL hs (fun v hv z => ?_)
    cases v
    case int x => exact hR _ _ _ _ z θ H hN hX hL (okKS_cons okS_i hS)
    all_goals exact z.elim
  case iload i =>
    refine lgetS_rn hL hs (fun v hv z => ?_)
    cases v
    case int x => exact hR _ _ _ _ z θ H hN hX hL (okKS_cons okS_i hS)
    all_goals exact z.elim
  case aload_n i =>
    refine lgetS_rn hL hs (fun v hv z => ?_)
    cases v
    case ref x => exact hR _ _ _ _ z θ H hN hX hL (okKS_cons hv hS)
    case null => exact hR _ _ _ _ z θ H hN hX hL (okKS_cons (Or.inr trivial) hS)
    all_goals exact z.elim
  case istore_n i =>
    split at hs
    · exact lputS_rn (okKS_hd hS) hL hs (fun L' hL' z => hR _ _ _ _ z θ H hN hX hL' (okKS_tl hS))
    · exact hs.elim
  case istore i =>
    split at hs
    · exact lputS_rn (okKS_hd hS) hL hs (fun L' hL' z => hR _ _ _ _ z θ H hN hX hL' (okKS_tl hS))
    · exact hs.elim
  case astore_n i =>
    split at hs
    · exact lputS_rn (okKS_hd hS) hL hs (fun L' hL' z => hR _ _ _ _ z θ H hN hX hL' (okKS_tl hS))
    · exact lputS_rn (okKS_hd hS) hL hs (fun L' hL' z => hR _ _ _ _ z θ H hN hX hL' (okKS_tl hS))
    · exact hs.elim
  case iinc i n =>
    refine lgetS_rn hL hs (fun v hv z => ?_)
    cases v
    case int x => exact lputS_rn (v := .int (x + c)) okS_i hL z (fun L' hL' z => hR _ _ _ _ z θ H hN hX hL' hS)
    all_goals exact z.elim
  case iadd  =>
    split at hs
    · exact hR _ _ _ _ hs θ H hN hX hL (okKS_cons okS_i (okKS_tl (okKS_tl hS)))
    · exact hs.elim
  case isub  =>
    split at hs
    · exact hR _ _ _ _ hs θ H hN hX hL (okKS_cons okS_i (okKS_tl (okKS_tl hS)))
    · exact hs.elim
  case dup  =>
    split at hs
    · exact hR _ _ _ _ hs θ H hN hX hL (okKS_cons okS_i hS)
    · exact hR _ _ _ _ hs θ H hN hX hL (okKS_cons (okKS_hd hS) hS)
    · exact hs.elim
  case if_icmp cn off =>
    split at hs
    · cases cn
      all_goals exact ⟨fun z => hR _ _ _ _ (hs.1 z) θ H hN hX hL (okKS_tl (okKS_tl hS)), fun z => hR _ _ _ _ (hs.2 z) θ H hN hX hL (okKS_tl (okKS_tl hS))⟩
    · exact hs.elim
  case ifCond cn off =>
    split at hs
    · cases cn
      all_goals exact ⟨fun z => hR _ _ _ _ (hs.1 z) θ H hN hX hL (okKS_tl hS), fun z => hR _ _ _ _ (hs.2 z) θ H hN hX hL (okKS_tl hS)⟩
    · exact hs.elim
  case goto off =>
    exact hR _ _ _ _ hs θ H hN hX hL hS
  case ireturn  =>
    split at hs
    · exact hs
    · exact hs.elim
  case sipush n =>
    exact hR _ _ _ _ hs θ H hN hX hL (okKS_cons okS_i hS)
  case aload i =>
    refine lgetS_rn hL hs (fun v hv z => ?_)
    cases v
    case ref x => exact hR _ _ _ _ z θ H hN hX hL (okKS_cons hv hS)
    case null => exact hR _ _ _ _ z θ H hN hX hL (okKS_cons (Or.inr trivial) hS)
    all_goals exact z.elim
  case astore i =>
    split at hs
    · exact lputS_rn (okKS_hd hS) hL hs (fun L' hL' z => hR _ _ _ _ z θ H hN hX hL' (okKS_tl hS))
    · exact lputS_rn (okKS_hd hS) hL hs (fun L' hL' z => hR _ _ _ _ z θ H hN hX hL' (okKS_tl hS))
    · exact hs.elim
  case imul  =>
    split at hs
    · exact hR _ _ _ _ hs θ H hN hX hL (okKS_cons okS_i (okKS_tl (okKS_tl hS)))
    · exact hs.elim
  case irem  =>
    split at hs
    · exact ⟨hs.1, hR _ _ _ _ hs.2 θ H hN hX hL (okKS_cons okS_i (okKS_tl (okKS_tl hS)))⟩
    · exact hs.elim
  case iaload  =>
    split at hs
    · obtain ⟨⟨g1, g2⟩, g3⟩ := hs
      obtain ⟨a1, a2, a3, a4, a5⟩ := h1 _ (show gT κ _ ≠ 0 by rw [g1]; decide)
      refine ⟨⟨a1.trans g1, by rw [a2]; exact g2⟩, ?_⟩
      have g4 := hR _ _ _ _ g3 θ H hN hX hL (okKS_cons okS_i (okKS_tl (okKS_tl hS)))
      rw [a3]; exact g4
    · exact hs.elim
  case iastore  =>
    split at hs
    · rename_i xx ii oo ss
      obtain ⟨⟨g1, g2⟩, g3⟩ := hs
      have ho : gT κ oo ≠ 0 := by rw [g1]; decide
      obtain ⟨a1, a2, a3, a4, a5⟩ := h1 _ ho
      exact ⟨⟨a1.trans g1, by rw [a2]; exact g2⟩, hR _ _ _ _ g3 θ _ (hN.sI ho) hX hL (okKS_tl (okKS_tl (okKS_tl hS)))⟩
    · exact hs.elim
def runS (w : W0) (Qv : Option Value → Prop) (cut : Nat → Bool) : Nat → Nat → Nat → Nat → List (Option Value) → List Value → AH → Prop
  | 0, kc, ns, pc, L, st, κ => YS w Qv kc ns pc L st κ
  | n + 1, kc, ns, pc, L, st, κ => cond (cut pc || !(knownS (tL_law pc).1)) (YS w Qv kc ns pc L st κ) (stepS w Qv (fun pc L st κ => runS w Qv cut n kc ns pc L st κ) kc ns pc L st κ (tL_law pc))
theorem runS_ok (cut : Nat → Bool) : ∀ (n kc ns pc : Nat) (L : List (Option Value)) (st : List Value) (κ : AH), runS w Qv cut n kc ns pc L st κ → YS w Qv kc ns pc L st κ
  | 0, _, _, _, _, _, _, hs => hs
  | n + 1, kc, ns, pc, L, st, κ, hs => by
    unfold runS at hs
    cases hc : (cut pc || !(knownS (tL_law pc).1)) with
    | true => rw [hc] at hs; exact hs
    | false =>
      rw [hc] at hs
      exact YS_step (fun pc L st κ z => runS_ok cut n kc ns pc L st κ z) (by
        cases hq : knownS (tL_law pc).1 with
        | true => rfl
        | false => rw [hq, Bool.not_false, Bool.or_true] at hc; cases hc) hs
theorem runS_go (cut : Nat → Bool) (n : Nat) (hkn : knownS (tL_law pc).1 = true) (hs : stepS w Qv (fun pc L st κ => runS w Qv cut n kc ns pc L st κ) kc ns pc L st κ (tL_law pc)) : YS w Qv kc ns pc L st κ :=
  YS_step (fun pc L st κ z => runS_ok cut n kc ns pc L st κ z) hkn hs
theorem rnVS {κ : AH} {θ θ' : Nat → Nat} (h : ∀ t, gT κ t ≠ 0 → θ' t = θ t) (h40 : θ' (tM 40) = θ (tM 40)) {v : Value} (hv : okVS κ v) : rnV θ' v = rnV θ v := by
  rcases hv with rfl | hv
  · show Value.ref (θ' (tM 40)) = Value.ref (θ (tM 40))
    rw [h40]
  · cases v
    case ref a => show Value.ref (θ' a) = Value.ref (θ a); rw [h a hv]
    all_goals rfl
theorem okVS_ext {κ κ' : AH} (h : ∀ t, gT κ t ≠ 0 → gT κ' t ≠ 0) {v : Value} (hv : okVS κ v) : okVS κ' v := by
  refine hv.imp id (fun z => ?_)
  cases v
  case ref a => exact h a z
  all_goals trivial
theorem ys_k {θ : Nat → Nat} {Q' : Option Value → AH → Prop} (hX : θ (tM 40) = w.aX) (k : ∀ v κ', Q' v κ' → okO κ' v → Keep κ κ' → gT κ' (tM 40) = 0 ∧ YS w Qv kc ns pc L (v.toList ++ st) κ') (hL : okLS κ L) (hS : okKS κ st) : ∀ v h', QR θ κ Q' v h' → X w mL_law (fun v _ => Qv v) (fun _ _ => False) kc ns pc (rnL θ L) (v.toList ++ st.map (rnV θ)) h' := by
  rintro v h' ⟨θ', v', κ', a, b, rfl, d, e⟩
  obtain ⟨g, h⟩ := k v' κ' e d (fun t ht => ⟨(b t ht).1, (b t ht).2.1⟩)
  have up : ∀ t, gT κ t ≠ 0 → upN θ' (tM 40) w.aX t = θ t := fun t ht => by
    have : t ≠ tM 40 := fun z => ht (by
      have q := (b t ht).1
      rw [z] at q ht
      exact absurd (q.symm.trans g) ht)
    rw [upN_n this, (b t ht).2.2]
  have up40 : upN θ' (tM 40) w.aX (tM 40) = θ (tM 40) := by rw [upN_s, hX]
  have al : ∀ t, gT κ t ≠ 0 → gT κ' t ≠ 0 := fun t ht => by rw [(b t ht).1]; exact ht
  have q := h (upN θ' (tM 40) w.aX) h' (RN_up a g) (upN_s _ _ _) (fun v hv => okVS_ext al (hL v hv)) (by
    intro x hx
    rcases List.mem_append.mp hx with h1 | h1
    · cases v' with
      | none => cases h1
      | some z => cases List.mem_singleton.mp h1; exact Or.inr (d _ rfl)
    · exact okVS_ext al (hS x h1))
  have eL : rnL (upN θ' (tM 40) w.aX) L = rnL θ L := List.map_congr_left fun v hv => by
    cases v with
    | none => rfl
    | some v => exact congrArg some (rnVS up up40 (hL v hv))
  have eS : st.map (rnV (upN θ' (tM 40) w.aX)) = st.map (rnV θ) := List.map_congr_left fun v hv => rnVS up up40 (hS v hv)
  rw [eL, List.map_append, eS] at q
  cases v' with
  | none => exact q
  | some z =>
    have ez : rnV (upN θ' (tM 40) w.aX) z = rnV θ' z := by
      have dz := d z rfl
      cases z
      case ref a =>
        show Value.ref (upN θ' (tM 40) w.aX a) = Value.ref (θ' a)
        rw [upN_n (fun e => (show gT κ' a ≠ 0 from dz) (by rw [e]; exact g))]
      all_goals rfl
    have q2 : X w mL_law (fun v _ => Qv v) (fun _ _ => False) kc ns pc (rnL θ L) ([rnV (upN θ' (tM 40) w.aX) z] ++ st.map (rnV θ)) h' := q
    rw [ez] at q2
    exact q2
end YSS

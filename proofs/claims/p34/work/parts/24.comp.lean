
/-! THE COMPONENT'S JUDGEMENT Y: X under a renaming of addresses: the abstract heap has addresses of our choice -/
def rnV (θ : Nat → Nat) : Value → Value
  | .ref a => .ref (θ a)
  | v => v
def rnL (θ : Nat → Nat) (L : List (Option Value)) : List (Option Value) := L.map (Option.map (rnV θ))
def okV (κ : AH) : Value → Prop
  | .ref a => gT κ a ≠ 0
  | _ => True
def okL (κ : AH) (L : List (Option Value)) : Prop := ∀ v, some v ∈ L → okV κ v
def okK (κ : AH) (st : List Value) : Prop := ∀ v ∈ st, okV κ v
def RN (θ : Nat → Nat) (κ H : AH) : Prop :=
  (∀ t, gT κ t ≠ 0 → gT H (θ t) = gT κ t ∧ gN H (θ t) = gN κ t ∧ (∀ k, gI H (θ t) k = gI κ t k) ∧ (∀ k, gR H (θ t) k = (gR κ t k).map θ) ∧ ∀ k, gL H (θ t) k = gL κ t k) ∧
  (∀ t u, gT κ t ≠ 0 → gT κ u ≠ 0 → θ t = θ u → t = u) ∧
  (∀ a, gT H a ≠ 0 → ∃ t, gT κ t ≠ 0 ∧ θ t = a) ∧
  ∀ t k b, gT κ t ≠ 0 → gR κ t k = some b → gT κ b ≠ 0
def Ext (κ : AH) (θ : Nat → Nat) (κ' : AH) (θ' : Nat → Nat) : Prop := ∀ t, gT κ t ≠ 0 → gT κ' t = gT κ t ∧ gN κ' t = gN κ t ∧ θ' t = θ t
theorem Ext.refl (κ : AH) (θ : Nat → Nat) : Ext κ θ κ θ := fun _ _ => ⟨rfl, rfl, rfl⟩
theorem Ext.trans {κ κ' κ'' : AH} {θ θ' θ'' : Nat → Nat} (h : Ext κ θ κ' θ') (h' : Ext κ' θ' κ'' θ'') : Ext κ θ κ'' θ'' := fun t ht => by
  obtain ⟨a, b, c⟩ := h t ht
  obtain ⟨a', b', c'⟩ := h' t (by rw [a]; exact ht)
  exact ⟨a'.trans a, b'.trans b, c'.trans c⟩
theorem okV.ext {κ κ' : AH} {θ θ' : Nat → Nat} (h : Ext κ θ κ' θ') : ∀ {v : Value}, okV κ v → okV κ' v ∧ rnV θ' v = rnV θ v
  | .ref a, hv => ⟨by show gT κ' a ≠ 0; rw [(h a hv).1]; exact hv, by show Value.ref (θ' a) = .ref (θ a); rw [(h a hv).2.2]⟩
  | .int _, _ => ⟨trivial, rfl⟩
  | .long _, _ => ⟨trivial, rfl⟩
  | .float _, _ => ⟨trivial, rfl⟩
  | .double _, _ => ⟨trivial, rfl⟩
  | .null, _ => ⟨trivial, rfl⟩
  | .retAddr _, _ => ⟨trivial, rfl⟩
theorem okK.ext {κ κ' : AH} {θ θ' : Nat → Nat} (h : Ext κ θ κ' θ') {st : List Value} (hs : okK κ st) : okK κ' st ∧ st.map (rnV θ') = st.map (rnV θ) :=
  ⟨fun v hv => (okV.ext h (hs v hv)).1, List.map_congr_left fun v hv => (okV.ext h (hs v hv)).2⟩
theorem okL.ext {κ κ' : AH} {θ θ' : Nat → Nat} (h : Ext κ θ κ' θ') {L : List (Option Value)} (hs : okL κ L) : okL κ' L ∧ rnL θ' L = rnL θ L :=
  ⟨fun v hv => (okV.ext h (hs v hv)).1, List.map_congr_left fun v hv => by
    cases v with
    | none => rfl
    | some v => exact congrArg some (okV.ext h (hs v hv)).2⟩
def QR (θ0 : Nat → Nat) (κ0 : AH) (Q : Option Value → AH → Prop) : Option Value → AH → Prop := fun v H' => ∃ (θ' : Nat → Nat) (v' : Option Value) (κ' : AH), RN θ' κ' H' ∧ Ext κ0 θ0 κ' θ' ∧ v = v'.map (rnV θ') ∧ (∀ x, v' = some x → okV κ' x) ∧ Q v' κ'
def QXR (θ0 : Nat → Nat) (κ0 : AH) (QX : String → AH → Prop) : String → AH → Prop := fun E H' => ∃ (θ' : Nat → Nat) (κ' : AH), RN θ' κ' H' ∧ Ext κ0 θ0 κ' θ' ∧ QX E κ'
def Y (w : W0) (M : MI) (θ0 : Nat → Nat) (κ0 : AH) (Q : Option Value → AH → Prop) (QX : String → AH → Prop) (kc ns pc : Nat) (L : List (Option Value)) (st : List Value) (κ : AH) : Prop :=
  ∀ θ H, RN θ κ H → Ext κ0 θ0 κ θ → okL κ L → okK κ st → X w M (QR θ0 κ0 Q) (QXR θ0 κ0 QX) kc ns pc (rnL θ L) (st.map (rnV θ)) H
theorem RN.sI {θ : Nat → Nat} {κ H : AH} {o b : Nat} {v : Int32} (hN : RN θ κ H) (ho : gT κ o ≠ 0) : RN θ (sI κ o b v) (sI H (θ o) b v) := by
  obtain ⟨h1, h2, h3, h4⟩ := hN
  refine ⟨fun t ht => ?_, h2, h3, h4⟩
  obtain ⟨a1, a2, a3, a4, a5⟩ := h1 t ht
  refine ⟨a1, a2, fun k => ?_, a4, a5⟩
  rw [gI_sI, gI_sI]
  by_cases e : t = o ∧ k = b
  · rw [if_pos e, if_pos ⟨by rw [e.1], e.2⟩]
  · rw [if_neg e, if_neg (fun z => e ⟨h2 t o ht ho z.1, z.2⟩), a3]
theorem RN.sL {θ : Nat → Nat} {κ H : AH} {o b : Nat} {v : Int64} (hN : RN θ κ H) (ho : gT κ o ≠ 0) : RN θ (sL κ o b v) (sL H (θ o) b v) := by
  obtain ⟨h1, h2, h3, h4⟩ := hN
  refine ⟨fun t ht => ?_, h2, h3, h4⟩
  obtain ⟨a1, a2, a3, a4, a5⟩ := h1 t ht
  refine ⟨a1, a2, a3, a4, fun k => ?_⟩
  rw [gL_sL, gL_sL]
  by_cases e : t = o ∧ k = b
  · rw [if_pos e, if_pos ⟨by rw [e.1], e.2⟩]
  · rw [if_neg e, if_neg (fun z => e ⟨h2 t o ht ho z.1, z.2⟩), a5]
theorem RN.sR {θ : Nat → Nat} {κ H : AH} {o b : Nat} {v : Option Nat} (hN : RN θ κ H) (ho : gT κ o ≠ 0) (hv : ∀ x, v = some x → gT κ x ≠ 0) : RN θ (sR κ o b v) (sR H (θ o) b (v.map θ)) := by
  obtain ⟨h1, h2, h3, h4⟩ := hN
  refine ⟨fun t ht => ?_, h2, h3, fun t k c ht hc => ?_⟩
  · obtain ⟨a1, a2, a3, a4, a5⟩ := h1 t ht
    refine ⟨a1, a2, a3, fun k => ?_, a5⟩
    rw [gR_sR, gR_sR]
    by_cases e : t = o ∧ k = b
    · rw [if_pos e, if_pos ⟨by rw [e.1], e.2⟩]
    · rw [if_neg e, if_neg (fun z => e ⟨h2 t o ht ho z.1, z.2⟩), a4]
  · rw [gR_sR] at hc
    show gT κ c ≠ 0
    by_cases e : t = o ∧ k = b
    · rw [if_pos e] at hc; exact hv c hc
    · rw [if_neg e] at hc; exact h4 t k c ht hc
theorem Ext.sI {κ0 κ : AH} {θ0 θ : Nat → Nat} {o b : Nat} {v : Int32} (h : Ext κ0 θ0 κ θ) : Ext κ0 θ0 (sI κ o b v) θ := h
theorem Ext.sL {κ0 κ : AH} {θ0 θ : Nat → Nat} {o b : Nat} {v : Int64} (h : Ext κ0 θ0 κ θ) : Ext κ0 θ0 (sL κ o b v) θ := h
theorem Ext.sR {κ0 κ : AH} {θ0 θ : Nat → Nat} {o b : Nat} {v : Option Nat} (h : Ext κ0 θ0 κ θ) : Ext κ0 θ0 (sR κ o b v) θ := h
theorem okK_cons {κ : AH} {v : Value} {st : List Value} (hv : okV κ v) (hs : okK κ st) : okK κ (v :: st) := fun x hx => (List.mem_cons.mp hx).elim (fun e => e ▸ hv) (hs x)
theorem okK_tl {κ : AH} {v : Value} {st : List Value} (hs : okK κ (v :: st)) : okK κ st := fun x hx => hs x (List.mem_cons_of_mem _ hx)
theorem okK_hd {κ : AH} {v : Value} {st : List Value} (hs : okK κ (v :: st)) : okV κ v := hs v List.mem_cons_self
theorem lget_rn {κ : AH} {θ : Nat → Nat} : ∀ {L : List (Option Value)} {i : Nat} {K K' : Value → Prop}, okL κ L → lget L i K → (∀ v, okV κ v → K v → K' (rnV θ v)) → lget (rnL θ L) i K'
  | [], _, _, _, _, h, _ => h.elim
  | some v :: _, 0, _, _, hL, h, hk => hk v (hL v List.mem_cons_self) h
  | none :: _, 0, _, _, _, h, _ => h.elim
  | some _ :: r, i + 1, K, K', hL, h, hk => lget_rn (L := r) (i := i) (fun v hv => hL v (List.mem_cons_of_mem _ hv)) h hk
  | none :: r, i + 1, K, K', hL, h, hk => lget_rn (L := r) (i := i) (fun v hv => hL v (List.mem_cons_of_mem _ hv)) h hk
theorem lput_rn {κ : AH} {θ : Nat → Nat} : ∀ {L : List (Option Value)} {i : Nat} {v : Value} {K K' : List (Option Value) → Prop}, okV κ v → okL κ L → lput L i v K → (∀ L', okL κ L' → K L' → K' (rnL θ L')) → lput (rnL θ L) i (rnV θ v) K'
  | [], _, _, _, _, _, _, h, _ => h.elim
  | _ :: r, 0, v, K, K', hv, hL, h, hk => hk (some v :: r) (fun x hx => (List.mem_cons.mp hx).elim (fun e => by cases e; exact hv) (fun z => hL x (List.mem_cons_of_mem _ z))) h
  | y :: r, i + 1, v, K, K', hv, hL, h, hk => lput_rn (L := r) (i := i) (K' := fun r' => K' (Option.map (rnV θ) y :: r')) hv (fun x hx => hL x (List.mem_cons_of_mem _ hx)) h
      (fun L' hL' z => hk (y :: L') (fun x hx => (List.mem_cons.mp hx).elim (fun e => by cases e; exact hL x List.mem_cons_self) (hL' x)) z)
theorem rnV_rf (θ : Nat → Nat) (r : Option Nat) : rnV θ (va_rf r) = va_rf (r.map θ) := by cases r <;> rfl
section YY
variable {w : W0} {M : MI} {θ0 : Nat → Nat} {κ0 : AH} {Q : Option Value → AH → Prop} {QX : String → AH → Prop} {kc ns pc : Nat} {L : List (Option Value)} {st : List Value} {κ : AH}
theorem Y_step {t : Nat → CE} (hk : RK M t) {R : Nat → List (Option Value) → List Value → AH → Prop} (hR : ∀ pc L st κ, R pc L st κ → Y w M θ0 κ0 Q QX kc ns pc L st κ) (hkn : known (t pc).1 = true) (hs : step w M Q QX R kc ns pc L st κ (t pc)) : Y w M θ0 κ0 Q QX kc ns pc L st κ := by
  intro θ H hN hE hL hS
  refine step_ok hk (R := fun pc L st h => X w M (QR θ0 κ0 Q) (QXR θ0 κ0 QX) kc ns pc L st h) (fun _ _ _ _ z => z) ?_
  generalize t pc = e at hs hkn
  obtain ⟨ins, nx, a, b, d, c⟩ := e
  unfold step at hs ⊢
  dsimp only at hs hkn ⊢
  have h1 := hN.1
  cases ins
  all_goals first | exact absurd hkn Bool.false_ne_true | skip
  all_goals dsimp only at hs ⊢
  case iconst n =>
    exact hR _ _ _ _ hs θ H hN hE hL (okK_cons trivial hS)
  case bipush n =>
    exact hR _ _ _ _ hs θ H hN hE hL (okK_cons trivial hS)
  case sipush n =>
    exact hR _ _ _ _ hs θ H hN hE hL (okK_cons trivial hS)
  case aconst_null  =>
    exact hR _ _ _ _ hs θ H hN hE hL (okK_cons trivial hS)
  case iload_n i =>
    refine lget_rn hL hs (fun v hv z => ?_)
    cases v
    case int x => exact hR _ _ _ _ z θ H hN hE hL (okK_cons trivial hS)
    all_goals exact z.elim
  case iload i =>
    refine lget_rn hL hs (fun v hv z => ?_)
    cases v
    case int x => exact hR _ _ _ _ z θ H hN hE hL (okK_cons trivial hS)
    all_goals exact z.elim
  case aload_n i =>
    refine lget_rn hL hs (fun v hv z => ?_)
    cases v
    case ref x => exact hR _ _ _ _ z θ H hN hE hL (okK_cons hv hS)
    case null => exact hR _ _ _ _ z θ H hN hE hL (okK_cons trivial hS)
    all_goals exact z.elim
  case aload i =>
    refine lget_rn hL hs (fun v hv z => ?_)
    cases v
    case ref x => exact hR _ _ _ _ z θ H hN hE hL (okK_cons hv hS)
    case null => exact hR _ _ _ _ z θ H hN hE hL (okK_cons trivial hS)
    all_goals exact z.elim
  case istore_n i =>
    split at hs
    · exact lput_rn (okK_hd hS) hL hs (fun L' hL' z => hR _ _ _ _ z θ H hN hE hL' (okK_tl hS))
    · exact hs.elim
  case istore i =>
    split at hs
    · exact lput_rn (okK_hd hS) hL hs (fun L' hL' z => hR _ _ _ _ z θ H hN hE hL' (okK_tl hS))
    · exact hs.elim
  case astore_n i =>
    split at hs
    · exact lput_rn (okK_hd hS) hL hs (fun L' hL' z => hR _ _ _ _ z θ H hN hE hL' (okK_tl hS))
    · exact lput_rn (okK_hd hS) hL hs (fun L' hL' z => hR _ _ _ _ z θ H hN hE hL' (okK_tl hS))
    · exact hs.elim
  case astore i =>
    split at hs
    · exact lput_rn (okK_hd hS) hL hs (fun L' hL' z => hR _ _ _ _ z θ H hN hE hL' (okK_tl hS))
    · exact lput_rn (okK_hd hS) hL hs (fun L' hL' z => hR _ _ _ _ z θ H hN hE hL' (okK_tl hS))
    · exact hs.elim
  case iinc i n =>
    refine lget_rn hL hs (fun v hv z => ?_)
    cases v
    case int x => exact lput_rn (v := .int (x + c)) trivial hL z (fun L' hL' z => hR _ _ _ _ z θ H hN hE hL' hS)
    all_goals exact z.elim
  case iadd  =>
    split at hs
    · exact hR _ _ _ _ hs θ H hN hE hL (okK_cons trivial (okK_tl (okK_tl hS)))
    · exact hs.elim
  case isub  =>
    split at hs
    · exact hR _ _ _ _ hs θ H hN hE hL (okK_cons trivial (okK_tl (okK_tl hS)))
    · exact hs.elim
  case imul  =>
    split at hs
    · exact hR _ _ _ _ hs θ H hN hE hL (okK_cons trivial (okK_tl (okK_tl hS)))
    · exact hs.elim
  case iand  =>
    split at hs
    · exact hR _ _ _ _ hs θ H hN hE hL (okK_cons trivial (okK_tl (okK_tl hS)))
    · exact hs.elim
  case ior  =>
    split at hs
    · exact hR _ _ _ _ hs θ H hN hE hL (okK_cons trivial (okK_tl (okK_tl hS)))
    · exact hs.elim
  case iushr  =>
    split at hs
    · exact hR _ _ _ _ hs θ H hN hE hL (okK_cons trivial (okK_tl (okK_tl hS)))
    · exact hs.elim
  case ishr  =>
    split at hs
    · exact hR _ _ _ _ hs θ H hN hE hL (okK_cons trivial (okK_tl (okK_tl hS)))
    · exact hs.elim
  case idiv  =>
    split at hs
    · exact ⟨hs.1, hR _ _ _ _ hs.2 θ H hN hE hL (okK_cons trivial (okK_tl (okK_tl hS)))⟩
    · exact hs.elim
  case irem  =>
    split at hs
    · exact ⟨hs.1, hR _ _ _ _ hs.2 θ H hN hE hL (okK_cons trivial (okK_tl (okK_tl hS)))⟩
    · exact hs.elim
  case ineg  =>
    split at hs
    · exact hR _ _ _ _ hs θ H hN hE hL (okK_cons trivial (okK_tl hS))
    · exact hs.elim
  case i2l  =>
    split at hs
    · exact hR _ _ _ _ hs θ H hN hE hL (okK_cons trivial (okK_tl hS))
    · exact hs.elim
  case lcmp  =>
    split at hs
    · exact hR _ _ _ _ hs θ H hN hE hL (okK_cons trivial (okK_tl (okK_tl hS)))
    · exact hs.elim
  case dup  =>
    split at hs
    · exact hR _ _ _ _ hs θ H hN hE hL (okK_cons trivial hS)
    · exact hR _ _ _ _ hs θ H hN hE hL (okK_cons (okK_hd hS) hS)
    · exact hs.elim
  case dup2  =>
    split at hs
    · exact hR _ _ _ _ hs θ H hN hE hL (okK_cons trivial (okK_cons (okK_hd (okK_tl hS)) hS))
    · exact hs.elim
  case pop  =>
    split at hs
    · exact hR _ _ _ _ hs θ H hN hE hL (okK_tl hS)
    · exact hs.elim
  case if_icmp cn off =>
    split at hs
    · cases cn
      all_goals exact ⟨fun z => hR _ _ _ _ (hs.1 z) θ H hN hE hL (okK_tl (okK_tl hS)), fun z => hR _ _ _ _ (hs.2 z) θ H hN hE hL (okK_tl (okK_tl hS))⟩
    · exact hs.elim
  case ifCond cn off =>
    split at hs
    · cases cn
      all_goals exact ⟨fun z => hR _ _ _ _ (hs.1 z) θ H hN hE hL (okK_tl hS), fun z => hR _ _ _ _ (hs.2 z) θ H hN hE hL (okK_tl hS)⟩
    · exact hs.elim
  case if_acmp cn off =>
    split at hs
    · cases cn
      case ne => exact ⟨fun z => hR _ _ _ _ (hs.1 (fun q => z (by rw [q]))) θ H hN hE hL (okK_tl (okK_tl hS)), fun z => hR _ _ _ _ (hs.2 (hN.2.1 _ _ (okK_hd (okK_tl hS)) (okK_hd hS) z)) θ H hN hE hL (okK_tl (okK_tl hS))⟩
      case eq => exact hs.elim
    · exact hs.elim
  case goto off =>
    exact hR _ _ _ _ hs θ H hN hE hL hS
  case ifnull off =>
    split at hs
    · exact hR _ _ _ _ hs θ H hN hE hL (okK_tl hS)
    · exact hR _ _ _ _ hs θ H hN hE hL (okK_tl hS)
    · exact hs.elim
  case ifnonnull off =>
    split at hs
    · exact hR _ _ _ _ hs θ H hN hE hL (okK_tl hS)
    · exact hR _ _ _ _ hs θ H hN hE hL (okK_tl hS)
    · exact hs.elim
  case getfield idx =>
    split at hs
    · obtain ⟨g1, g2⟩ := hs
      have ho := okK_hd hS
      obtain ⟨a1, a2, a3, a4, a5⟩ := h1 _ ho
      refine ⟨a1.trans g1, ?_⟩
      split at g2
      · have g3 := hR _ _ _ _ g2 θ H hN hE hL (okK_cons trivial (okK_tl hS))
        show X w M _ _ kc ns nx (rnL θ L) (.int (gI H (θ _) b) :: _) H
        rw [a3]; exact g3
      · obtain ⟨r, e1, g3⟩ := g2
        refine ⟨r.map θ, (a4 b).trans (by rw [e1]), ?_⟩
        have hr : okV κ (va_rf r) := by
          cases r with
          | none => trivial
          | some x => exact hN.2.2.2 _ _ _ ho e1
        have g4 := hR _ _ _ _ g3 θ H hN hE hL (okK_cons hr (okK_tl hS))
        rw [List.map_cons, rnV_rf] at g4; exact g4
      · exact g2.elim
    · exact hs.elim
  case putfield idx =>
    split at hs
    · split at hs
      · exact ⟨((h1 _ (okK_hd (okK_tl hS))).1.trans hs.1), hR _ _ _ _ hs.2 θ _ (hN.sI (okK_hd (okK_tl hS))) hE hL (okK_tl (okK_tl hS))⟩
      · exact hs.elim
    · split at hs
      · exact ⟨⟨((h1 _ (okK_hd (okK_tl hS))).1.trans hs.1.1), hs.1.2⟩, hR _ _ _ _ hs.2 θ _ (hN.sI (okK_hd (okK_tl hS))) hE hL (okK_tl (okK_tl hS))⟩
      · exact hs.elim
    · split at hs
      · rename_i v o st'
        exact ⟨((h1 _ (okK_hd (okK_tl hS))).1.trans hs.1), hR _ _ _ _ hs.2 θ _ (hN.sR (v := some v) (okK_hd (okK_tl hS)) (fun x hx => by cases hx; exact okK_hd hS)) hE hL (okK_tl (okK_tl hS))⟩
      · exact ⟨((h1 _ (okK_hd (okK_tl hS))).1.trans hs.1), hR _ _ _ _ hs.2 θ _ (hN.sR (v := none) (okK_hd (okK_tl hS)) (fun x hx => by cases hx)) hE hL (okK_tl (okK_tl hS))⟩
      · exact hs.elim
    · split at hs
      · exact ⟨((h1 _ (okK_hd (okK_tl hS))).1.trans hs.1), hR _ _ _ _ hs.2 θ _ (hN.sI (okK_hd (okK_tl hS))) hE hL (okK_tl (okK_tl hS))⟩
      · exact hs.elim
    · split at hs
      · rename_i v o st'
        exact ⟨((h1 _ (okK_hd (okK_tl hS))).1.trans hs.1), hR _ _ _ _ hs.2 θ _ (hN.sR (v := some v) (okK_hd (okK_tl hS)) (fun x hx => by cases hx; exact okK_hd hS)) hE hL (okK_tl (okK_tl hS))⟩
      · exact hs.elim
    · split at hs
      · rename_i v o st'
        exact ⟨((h1 _ (okK_hd (okK_tl hS))).1.trans hs.1), hR _ _ _ _ hs.2 θ _ (hN.sR (v := some v) (okK_hd (okK_tl hS)) (fun x hx => by cases hx; exact okK_hd hS)) hE hL (okK_tl (okK_tl hS))⟩
      · exact hs.elim
    · exact hs.elim
  case iaload  =>
    split at hs
    · obtain ⟨⟨g1, g2⟩, g3⟩ := hs
      obtain ⟨a1, a2, a3, a4, a5⟩ := h1 _ (okK_hd (okK_tl hS))
      refine ⟨⟨a1.trans g1, by rw [a2]; exact g2⟩, ?_⟩
      have g4 := hR _ _ _ _ g3 θ H hN hE hL (okK_cons trivial (okK_tl (okK_tl hS)))
      rw [a3]; exact g4
    · exact hs.elim
  case baload  =>
    split at hs
    · obtain ⟨⟨g1, g2⟩, g3⟩ := hs
      obtain ⟨a1, a2, a3, a4, a5⟩ := h1 _ (okK_hd (okK_tl hS))
      refine ⟨⟨a1.trans g1, by rw [a2]; exact g2⟩, ?_⟩
      have g4 := hR _ _ _ _ g3 θ H hN hE hL (okK_cons trivial (okK_tl (okK_tl hS)))
      rw [a3]; exact g4
    · exact hs.elim
  case laload  =>
    split at hs
    · obtain ⟨⟨g1, g2⟩, g3⟩ := hs
      obtain ⟨a1, a2, a3, a4, a5⟩ := h1 _ (okK_hd (okK_tl hS))
      refine ⟨⟨a1.trans g1, by rw [a2]; exact g2⟩, ?_⟩
      have g4 := hR _ _ _ _ g3 θ H hN hE hL (okK_cons trivial (okK_tl (okK_tl hS)))
      rw [a5]; exact g4
    · exact hs.elim
  case iastore  =>
    split at hs
    · obtain ⟨⟨g1, g2⟩, g3⟩ := hs
      have ho := okK_hd (okK_tl (okK_tl hS))
      obtain ⟨a1, a2, a3, a4, a5⟩ := h1 _ ho
      exact ⟨⟨a1.trans g1, by rw [a2]; exact g2⟩, hR _ _ _ _ g3 θ _ (hN.sI ho) hE hL (okK_tl (okK_tl (okK_tl hS)))⟩
    · exact hs.elim
  case lastore  =>
    split at hs
    · obtain ⟨⟨g1, g2⟩, g3⟩ := hs
      have ho := okK_hd (okK_tl (okK_tl hS))
      obtain ⟨a1, a2, a3, a4, a5⟩ := h1 _ ho
      exact ⟨⟨a1.trans g1, by rw [a2]; exact g2⟩, hR _ _ _ _ g3 θ _ (hN.sL ho) hE hL (okK_tl (okK_tl (okK_tl hS)))⟩
    · exact hs.elim
  case bastore  =>
    split at hs
    · obtain ⟨⟨g1, g2, g5⟩, g3⟩ := hs
      have ho := okK_hd (okK_tl (okK_tl hS))
      obtain ⟨a1, a2, a3, a4, a5⟩ := h1 _ ho
      exact ⟨⟨a1.trans g1, by rw [a2]; exact g2, g5⟩, hR _ _ _ _ g3 θ _ (hN.sI ho) hE hL (okK_tl (okK_tl (okK_tl hS)))⟩
    · exact hs.elim
  case aaload  =>
    split at hs
    · obtain ⟨⟨g1, g2⟩, r, e1, g3⟩ := hs
      have ho := okK_hd (okK_tl hS)
      obtain ⟨a1, a2, a3, a4, a5⟩ := h1 _ ho
      refine ⟨⟨by rw [a1]; exact g1, by rw [a2]; exact g2⟩, r.map θ, (a4 _).trans (by rw [e1]), ?_⟩
      have hr : okV κ (va_rf r) := by
        cases r with
        | none => trivial
        | some x => exact hN.2.2.2 _ _ _ ho e1
      have g4 := hR _ _ _ _ g3 θ H hN hE hL (okK_cons hr (okK_tl (okK_tl hS)))
      rw [List.map_cons, rnV_rf] at g4; exact g4
    · exact hs.elim
  case arraylength  =>
    split at hs
    · obtain ⟨g1, g3⟩ := hs
      obtain ⟨a1, a2, a3, a4, a5⟩ := h1 _ (okK_hd hS)
      refine ⟨by rw [a1]; exact g1, ?_⟩
      have g4 := hR _ _ _ _ g3 θ H hN hE hL (okK_cons trivial (okK_tl hS))
      rw [a2]; exact g4
    · exact hs.elim
  case ireturn  =>
    split at hs
    · obtain ⟨g1, g2⟩ := hs
      refine ⟨g1, ?_⟩
      split at g2
      · exact ⟨θ, some _, κ, hN, hE, rfl, (fun x hx => by cases hx; exact okK_hd hS), g2⟩
      · exact ⟨g2.1, ⟨θ, some _, κ, hN, hE, rfl, (fun x hx => by cases hx; exact okK_hd hS), g2.2⟩⟩
      · exact g2.elim
    · exact hs.elim
  case areturn  =>
    split at hs
    · obtain ⟨g1, g2⟩ := hs
      refine ⟨g1, ?_⟩
      split at g2
      · exact ⟨θ, some _, κ, hN, hE, rfl, (fun x hx => by cases hx; exact okK_hd hS), g2⟩
      · exact ⟨θ, some _, κ, hN, hE, rfl, (fun x hx => by cases hx; exact okK_hd hS), g2⟩
      · exact g2.elim
    · obtain ⟨g1, g2⟩ := hs
      refine ⟨g1, ?_⟩
      split at g2
      · exact ⟨θ, some _, κ, hN, hE, rfl, (fun x hx => by cases hx; exact okK_hd hS), g2⟩
      · exact ⟨θ, some _, κ, hN, hE, rfl, (fun x hx => by cases hx; exact okK_hd hS), g2⟩
      · exact g2.elim
    · exact hs.elim
  case return_  =>
    split at hs
    · obtain ⟨g1, g2⟩ := hs
      refine ⟨g1, ?_⟩
      split at g2
      · exact ⟨θ, none, κ, hN, hE, rfl, (fun x hx => by cases hx), g2⟩
      · exact g2.elim
    · exact hs.elim
def runY (w : W0) (M : MI) (θ0 : Nat → Nat) (κ0 : AH) (Q : Option Value → AH → Prop) (QX : String → AH → Prop) (t : Nat → CE) (cut : Nat → Bool) : Nat → Nat → Nat → Nat → List (Option Value) → List Value → AH → Prop
  | 0, kc, ns, pc, L, st, κ => Y w M θ0 κ0 Q QX kc ns pc L st κ
  | n + 1, kc, ns, pc, L, st, κ => cond (cut pc || !(known (t pc).1)) (Y w M θ0 κ0 Q QX kc ns pc L st κ) (step w M Q QX (fun pc L st κ => runY w M θ0 κ0 Q QX t cut n kc ns pc L st κ) kc ns pc L st κ (t pc))
theorem runY_ok {t : Nat → CE} (hk : RK M t) (cut : Nat → Bool) : ∀ (n kc ns pc : Nat) (L : List (Option Value)) (st : List Value) (κ : AH), runY w M θ0 κ0 Q QX t cut n kc ns pc L st κ → Y w M θ0 κ0 Q QX kc ns pc L st κ
  | 0, _, _, _, _, _, _, hs => hs
  | n + 1, kc, ns, pc, L, st, κ, hs => by
    unfold runY at hs
    cases hc : (cut pc || !(known (t pc).1)) with
    | true => rw [hc] at hs; exact hs
    | false =>
      rw [hc] at hs
      exact Y_step hk (fun pc L st κ z => runY_ok hk cut n kc ns pc L st κ z) (by
        cases hq : known (t pc).1 with
        | true => rfl
        | false => rw [hq, Bool.not_false, Bool.or_true] at hc; cases hc) hs
theorem runY_go {t : Nat → CE} (hk : RK M t) (cut : Nat → Bool) (n : Nat) (hkn : known (t pc).1 = true) (hs : step w M Q QX (fun pc L st κ => runY w M θ0 κ0 Q QX t cut n kc ns pc L st κ) kc ns pc L st κ (t pc)) : Y w M θ0 κ0 Q QX kc ns pc L st κ :=
  Y_step hk (fun pc L st κ z => runY_ok hk cut n kc ns pc L st κ z) hkn hs
end YY

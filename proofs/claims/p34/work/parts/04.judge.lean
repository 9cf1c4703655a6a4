
/-! THE JUDGEMENT X: an abstract heap (kinds, lengths, numbers, references), the machine hidden in one definition; a rule an instruction. -/
abbrev AH : Type := (Nat → Nat) × (Nat → Nat) × (Nat → Nat → Int32) × (Nat → Nat → Option Nat) × (Nat → Nat → Int64)
def gT (h : AH) (a : Nat) : Nat := h.1 a
def gN (h : AH) (a : Nat) : Nat := h.2.1 a
def gI (h : AH) (a k : Nat) : Int32 := h.2.2.1 a k
def gR (h : AH) (a k : Nat) : Option Nat := h.2.2.2.1 a k
def gL (h : AH) (a k : Nat) : Int64 := h.2.2.2.2 a k
def u2 {α : Type} (f : Nat → Nat → α) (a k : Nat) (v : α) : Nat → Nat → α := fun b j => if b = a ∧ j = k then v else f b j
def sI (h : AH) (a k : Nat) (v : Int32) : AH := (h.1, h.2.1, u2 h.2.2.1 a k v, h.2.2.2.1, h.2.2.2.2)
def sR (h : AH) (a k : Nat) (v : Option Nat) : AH := (h.1, h.2.1, h.2.2.1, u2 h.2.2.2.1 a k v, h.2.2.2.2)
def sL (h : AH) (a k : Nat) (v : Int64) : AH := (h.1, h.2.1, h.2.2.1, h.2.2.2.1, u2 h.2.2.2.2 a k v)
def nO (h : AH) (a t n : Nat) : AH := (fun b => if b = a then t else h.1 b, fun b => if b = a then n else h.2.1 b, fun b j => if b = a then 0 else h.2.2.1 b j, fun b j => if b = a then none else h.2.2.2.1 b j, fun b j => if b = a then 0 else h.2.2.2.2 b j)
theorem gT_sI {h : AH} {a k : Nat} {v : Int32} (b : Nat) : gT (sI h a k v) b = gT h b := rfl
theorem gN_sI {h : AH} {a k : Nat} {v : Int32} (b : Nat) : gN (sI h a k v) b = gN h b := rfl
theorem gR_sI {h : AH} {a k : Nat} {v : Int32} (b j : Nat) : gR (sI h a k v) b j = gR h b j := rfl
theorem gL_sI {h : AH} {a k : Nat} {v : Int32} (b j : Nat) : gL (sI h a k v) b j = gL h b j := rfl
theorem gI_sI {h : AH} {a k : Nat} {v : Int32} (b j : Nat) : gI (sI h a k v) b j = if b = a ∧ j = k then v else gI h b j := rfl
theorem gT_sR {h : AH} {a k : Nat} {v : Option Nat} (b : Nat) : gT (sR h a k v) b = gT h b := rfl
theorem gN_sR {h : AH} {a k : Nat} {v : Option Nat} (b : Nat) : gN (sR h a k v) b = gN h b := rfl
theorem gI_sR {h : AH} {a k : Nat} {v : Option Nat} (b j : Nat) : gI (sR h a k v) b j = gI h b j := rfl
theorem gL_sR {h : AH} {a k : Nat} {v : Option Nat} (b j : Nat) : gL (sR h a k v) b j = gL h b j := rfl
theorem gR_sR {h : AH} {a k : Nat} {v : Option Nat} (b j : Nat) : gR (sR h a k v) b j = if b = a ∧ j = k then v else gR h b j := rfl
theorem gT_sL {h : AH} {a k : Nat} {v : Int64} (b : Nat) : gT (sL h a k v) b = gT h b := rfl
theorem gN_sL {h : AH} {a k : Nat} {v : Int64} (b : Nat) : gN (sL h a k v) b = gN h b := rfl
theorem gI_sL {h : AH} {a k : Nat} {v : Int64} (b j : Nat) : gI (sL h a k v) b j = gI h b j := rfl
theorem gR_sL {h : AH} {a k : Nat} {v : Int64} (b j : Nat) : gR (sL h a k v) b j = gR h b j := rfl
theorem gL_sL {h : AH} {a k : Nat} {v : Int64} (b j : Nat) : gL (sL h a k v) b j = if b = a ∧ j = k then v else gL h b j := rfl
theorem gT_nO {h : AH} {a t n : Nat} (b : Nat) : gT (nO h a t n) b = if b = a then t else gT h b := rfl
theorem gN_nO {h : AH} {a t n : Nat} (b : Nat) : gN (nO h a t n) b = if b = a then n else gN h b := rfl
theorem gI_nO {h : AH} {a t n : Nat} (b j : Nat) : gI (nO h a t n) b j = if b = a then 0 else gI h b j := rfl
theorem gR_nO {h : AH} {a t n : Nat} (b j : Nat) : gR (nO h a t n) b j = if b = a then none else gR h b j := rfl
theorem gL_nO {h : AH} {a t n : Nat} (b j : Nat) : gL (nO h a t n) b j = if b = a then 0 else gL h b j := rfl
/-- the kinds: 1 .. 10 an object of class 0 .. 9; 11 int[], 12 boolean[], 13 long[], 14 Block[], 15 Weld[], 16 Pipe[], 17 Room[]. Which fields of a class are references -/
def clsL : List (List Bool) := [[false, false, false, false, false, false, false, false, false, true], [true, false, false], [true, false, false], [true], [false, true, false, false, false, false, false], [true], [true, false, false, false, false], [true, false], [true, true, true, true, true, true, true, false, false, false, false, false, false, false, false]]
def ety (t : Nat) : FieldType := match t with
  | 11 => .int
  | 12 => .boolean
  | 13 => .long
  | 14 => .object "Stowfinish$Block"
  | 15 => .object "Stowfinish$Weld"
  | 16 => .object "Stowfinish$Pipe"
  | _ => .object "Stowfinish$Room"
def encF (h : AH) (a : Nat) : Nat → List Bool → List Value
  | _, [] => []
  | k, b :: r => (if b then va_rf (gR h a k) else .int (gI h a k)) :: encF h a (k + 1) r
def encA (h : AH) (a : Nat) : vp_A := match gT h a with
  | 11 => (gN h a, .inl (gI h a))
  | 12 => (gN h a, .inl (gI h a))
  | 13 => (gN h a, .inr (.inl (gL h a)))
  | _ => (gN h a, .inr (.inr (.inr (.inr (gR h a)))))
def En (tys : List (ClassId × FieldType)) (h : AH) (a : Nat) (e : va_E) : Prop :=
  (∃ (ci : Nat) (ks : List Bool), gT h a = ci + 1 ∧ ci < 10 ∧ clsL[ci]? = some ks ∧ e = .inr (ci, encF h a 0 ks)) ∨
  (∃ (cA : ClassId) (t0 : Nat), 11 ≤ gT h a ∧ gT h a ≤ 17 ∧ tys[t0]? = some (cA, ety (gT h a)) ∧ e = .inl (cA, encA h a))
def Em (tys : List (ClassId × FieldType)) (ws : va_W) (h : AH) : Prop := (∀ a : Nat, gT h a ≠ 0 → ∃ (q0 : Nat) (e : va_E), ws[q0]? = some (a, e) ∧ En tys h a e) ∧ ∀ (q0 a : Nat) (e : va_E), ws[q0]? = some (a, e) → gT h a ≠ 0
theorem encF_get (h : AH) (a : Nat) : ∀ (ks : List Bool) (k0 k : Nat) (b : Bool), ks[k]? = some b → (encF h a k0 ks)[k]? = some (if b then va_rf (gR h a (k0 + k)) else .int (gI h a (k0 + k)))
  | [], _, _, _, hk => by simp at hk
  | c :: r, k0, 0, b, hk => by
    simp at hk
    subst hk
    rfl
  | c :: r, k0, k + 1, b, hk => by
    have h1 := encF_get h a r (k0 + 1) k b (by simpa using hk)
    rw [show k0 + (k + 1) = k0 + 1 + k by omega]
    simpa [encF] using h1
theorem encF_len (h : AH) (a : Nat) : ∀ (ks : List Bool) (k0 : Nat), (encF h a k0 ks).length = ks.length
  | [], _ => rfl
  | c :: r, k0 => by simp [encF, encF_len h a r]
theorem encF_cong {h h' : AH} {a : Nat} (hi : ∀ j, gI h' a j = gI h a j) (hr : ∀ j, gR h' a j = gR h a j) : ∀ (ks : List Bool) (k0 : Nat), encF h' a k0 ks = encF h a k0 ks
  | [], _ => rfl
  | c :: r, k0 => by simp [encF, encF_cong hi hr r, hi, hr]
theorem encF_hi {h : AH} {a p : Nat} {v : Int32} : ∀ (ks : List Bool) (k0 : Nat), p < k0 → encF (sI h a p v) a k0 ks = encF h a k0 ks
  | [], _, _ => rfl
  | c :: r, k0, hp => by
    have hne : ¬ k0 = p := by omega
    have ih := encF_hi (h := h) (a := a) (p := p) (v := v) r (k0 + 1) (by omega)
    simp [encF, ih, gR_sI, gI_sI, hne]
theorem encF_setI {h : AH} {a : Nat} {v : Int32} : ∀ (ks : List Bool) (k0 k : Nat), ks[k]? = some false → (encF h a k0 ks).set k (.int v) = encF (sI h a (k0 + k) v) a k0 ks
  | [], _, _, hk => by simp at hk
  | c :: r, k0, 0, hk => by
    simp at hk
    subst hk
    have ih := encF_hi (h := h) (a := a) (p := k0) (v := v) r (k0 + 1) (Nat.lt_succ_self k0)
    simp [encF, ih, gI_sI]
  | c :: r, k0, k + 1, hk => by
    have h1 := encF_setI (h := h) (a := a) (v := v) r (k0 + 1) k (by simpa using hk)
    rw [show k0 + 1 + k = k0 + (k + 1) by omega] at h1
    have hne : ¬ k0 = k0 + (k + 1) := by omega
    simp [encF, List.set_cons_succ, h1, gR_sI, gI_sI, hne]
theorem encF_hiR {h : AH} {a p : Nat} {v : Option Nat} : ∀ (ks : List Bool) (k0 : Nat), p < k0 → encF (sR h a p v) a k0 ks = encF h a k0 ks
  | [], _, _ => rfl
  | c :: r, k0, hp => by
    have hne : ¬ k0 = p := by omega
    have ih := encF_hiR (h := h) (a := a) (p := p) (v := v) r (k0 + 1) (by omega)
    simp [encF, ih, gR_sR, gI_sR, hne]
theorem encF_setR {h : AH} {a : Nat} {v : Option Nat} : ∀ (ks : List Bool) (k0 k : Nat), ks[k]? = some true → (encF h a k0 ks).set k (va_rf v) = encF (sR h a (k0 + k) v) a k0 ks
  | [], _, _, hk => by simp at hk
  | c :: r, k0, 0, hk => by
    simp at hk
    subst hk
    have ih := encF_hiR (h := h) (a := a) (p := k0) (v := v) r (k0 + 1) (Nat.lt_succ_self k0)
    simp [encF, ih, gR_sR]
  | c :: r, k0, k + 1, hk => by
    have h1 := encF_setR (h := h) (a := a) (v := v) r (k0 + 1) k (by simpa using hk)
    rw [show k0 + 1 + k = k0 + (k + 1) by omega] at h1
    have hne : ¬ k0 = k0 + (k + 1) := by omega
    simp [encF, List.set_cons_succ, h1, gR_sR, gI_sR, hne]
/-- an entry is the same where the kind, the length and all that lies there is -/
theorem En.cong {tys : List (ClassId × FieldType)} {h h' : AH} {a : Nat} {e : va_E} (ht : gT h' a = gT h a) (hn : gN h' a = gN h a) (hi : ∀ j, gI h' a j = gI h a j) (hr : ∀ j, gR h' a j = gR h a j) (hl : ∀ j, gL h' a j = gL h a j) (H : En tys h a e) : En tys h' a e := by
  rcases H with ⟨ci, ks, h1, h2, h3, h4⟩ | ⟨cA, t0, h1, h2, h3, h4⟩
  · exact Or.inl ⟨ci, ks, by rw [ht, h1], h2, h3, by rw [encF_cong hi hr]; exact h4⟩
  · refine Or.inr ⟨cA, t0, by rw [ht]; exact h1, by rw [ht]; exact h2, by rw [ht]; exact h3, ?_⟩
    rw [h4]
    have e1 : gI h' a = gI h a := funext hi
    have e2 : gR h' a = gR h a := funext hr
    have e3 : gL h' a = gL h a := funext hl
    simp only [encA, ht, hn, e1, e2, e3]
theorem En.more {tys : List (ClassId × FieldType)} (x : List (ClassId × FieldType)) {h : AH} {a : Nat} {e : va_E} (H : En tys h a e) : En (tys ++ x) h a e := by
  rcases H with H | ⟨cA, t0, h1, h2, h3, h4⟩
  · exact Or.inl H
  · exact Or.inr ⟨cA, t0, h1, h2, by rw [List.getElem?_append_left (List.getElem?_eq_some_iff.mp h3).1]; exact h3, h4⟩
theorem Em.more {tys : List (ClassId × FieldType)} (x : List (ClassId × FieldType)) {ws : va_W} {h : AH} (H : Em tys ws h) : Em (tys ++ x) ws h :=
  ⟨fun a ha => by obtain ⟨q, e, h1, h2⟩ := H.1 a ha; exact ⟨q, e, h1, h2.more x⟩, H.2⟩
theorem Em.upd {tys : List (ClassId × FieldType)} {ws : va_W} {h h' : AH} {q0 a : Nat} {e0 e' : va_E} (hE : Em tys ws h) (h0 : ws[q0]? = some (a, e0)) (htag : ∀ b, gT h' b = gT h b) (heq : ∀ b, b ≠ a → ∀ e, En tys h b e → En tys h' b e) (hnew : En tys h' a e') : Em tys (ws.set q0 (a, e')) h' := by
  have hlt := (List.getElem?_eq_some_iff.mp h0).1
  refine ⟨fun b hb => ?_, fun q b e hq => ?_⟩
  · by_cases hba : b = a
    · subst hba
      exact ⟨q0, e', List.getElem?_set_self hlt, hnew⟩
    · obtain ⟨q, e, h1, h2⟩ := hE.1 b (by rw [← htag]; exact hb)
      have hq : q0 ≠ q := fun z => by subst z; rw [h0] at h1; exact hba (congrArg Prod.fst (Option.some.inj h1)).symm
      exact ⟨q, e, by rw [List.getElem?_set_ne hq]; exact h1, heq b hba e h2⟩
  · rw [htag]
    by_cases hz : q0 = q
    · subst hz
      rw [List.getElem?_set_self hlt] at hq
      cases hq
      exact hE.2 _ _ _ h0
    · rw [List.getElem?_set_ne hz] at hq
      exact hE.2 _ _ _ hq
theorem Em.push {tys : List (ClassId × FieldType)} {A : Nat → Prop} {ws : va_W} {h : AH} {q t n : Nat} {e' : va_E} (hE : Em tys ws h) (hD : va_D A (ws ++ [(q, e')])) (ht : t ≠ 0) (hnew : En tys (nO h q t n) q e') : gT h q = 0 ∧ Em tys (ws ++ [(q, e')]) (nO h q t n) := by
  have fresh : ∀ (i : Nat) (e : va_E), ws[i]? ≠ some (q, e) := fun i e hi => by
    have hl := (List.getElem?_eq_some_iff.mp hi).1
    have h1 : (ws ++ [(q, e')])[i]? = some (q, e) := by rw [List.getElem?_append_left hl]; exact hi
    have h2 : (ws ++ [(q, e')])[ws.length]? = some (q, e') := by simp
    have := hD.1 i ws.length _ _ h1 h2 rfl
    omega
  refine ⟨Classical.byContradiction fun hz => ?_, fun b hb => ?_, fun i b e hi => ?_⟩
  · obtain ⟨i, e, h1, -⟩ := hE.1 q hz
    exact fresh i e h1
  · by_cases hbq : b = q
    · subst hbq
      exact ⟨ws.length, e', by simp, hnew⟩
    · obtain ⟨i, e, h1, h2⟩ := hE.1 b (by rw [gT_nO, if_neg hbq] at hb; exact hb)
      have hl := (List.getElem?_eq_some_iff.mp h1).1
      refine ⟨i, e, by rw [List.getElem?_append_left hl]; exact h1, h2.cong ?_ ?_ ?_ ?_ ?_⟩
      · rw [gT_nO, if_neg hbq]
      · rw [gN_nO, if_neg hbq]
      · intro j; rw [gI_nO, if_neg hbq]
      · intro j; rw [gR_nO, if_neg hbq]
      · intro j; rw [gL_nO, if_neg hbq]
  · rw [gT_nO]
    split
    · exact ht
    · rename_i hbq
      by_cases hl : i < ws.length
      · rw [List.getElem?_append_left hl] at hi
        exact hE.2 _ _ _ hi
      · rw [List.getElem?_append_right (by omega)] at hi
        have hz : i - ws.length < 1 := (List.getElem?_eq_some_iff.mp hi).1
        rw [show i - ws.length = 0 by omega] at hi
        cases hi
        exact absurd rfl hbq
/-! words -/
def TB : List Cond := lw_tbl.filter goodWord
theorem inT {w : Cond} (i : Nat) (h : tables_1[i]? = some w) (g : goodWord w = true) : w ∈ TB := List.mem_filter.mpr ⟨List.mem_append_right _ (List.mem_of_getElem? h), g⟩
theorem inS {w : Cond} (i : Nat) (h : (k2_sels lw_privs)[i]? = some w) (g : goodWord w = true) : w ∈ TB := List.mem_filter.mpr ⟨List.mem_append_left _ (List.mem_of_getElem? h), g⟩
theorem TB_good {w : Cond} (h : w ∈ TB) : goodWord w = true := (List.mem_filter.mp h).2
/-- what a class's table row gives -/
def CI (ci : Nat) (C : String) (T : u_T) (N : Nat) (ty : Nat → FieldType) (ks : List Bool) : Prop :=
  vwCl[ci]? = some (C, T, N) ∧ (∀ w ∈ u_ws C T N, w ∈ TB) ∧ (∀ k, k < N → parseFieldDescriptor (T k).2.2.1 = some (ty k)) ∧ (∀ a, a < N → ∀ b, b < N → a ≠ b → (T a).2.1 ≠ (T b).2.1) ∧ clsL[ci]? = some ks ∧ ks.length = N ∧ ci < 10 ∧
  (∀ j, j < N → defaultValue (ty j) = if ks[j]? = some true then .null else .int 0)
/-- a field by its place in a constant pool -/
def FG (own : String) (idx ci k : Nat) : Prop := ∃ C T N ty ks, CI ci C T N ty ks ∧ k < N ∧ Cond.fieldLink own idx (T k).1 (T k).2.1 (T k).2.2.1 ∈ TB
/-- .. that is written: final or not, of a type -/
def FP (own : String) (idx ci k : Nat) (fin : Bool) (t : FieldType) : Prop := ∃ C T N ty ks, CI ci C T N ty ks ∧ k < N ∧ Cond.fieldLink own idx (T k).1 (T k).2.1 (T k).2.2.1 ∈ TB ∧ (T k).2.2.2 = fin ∧ ty k = t ∧ (fin = true → (T k).1 = own)
/-! the world: launch, class numbers, the first new address, the addresses of the two static rows and of the script, its length and ints -/
abbrev W0 : Type := Launch × va_G × Nat × Nat × Nat × Nat × Nat × (Nat → Int32)
abbrev W0.la (w : W0) : Launch := w.1
abbrev W0.dg (w : W0) : va_G := w.2.1
abbrev W0.b0 (w : W0) : Nat := w.2.2.1
abbrev W0.aS (w : W0) : Nat := w.2.2.2.1
abbrev W0.aH (w : W0) : Nat := w.2.2.2.2.1
abbrev W0.aX (w : W0) : Nat := w.2.2.2.2.2.1
abbrev W0.lX (w : W0) : Nat := w.2.2.2.2.2.2.1
abbrev W0.xs (w : W0) : Nat → Int32 := w.2.2.2.2.2.2.2
abbrev wA (w : W0) : Nat → Prop := fun q => w.b0 ≤ q
def sideS : Nat → Int32 := fun k => match k with
  | 0 => -12
  | 1 => -1
  | 2 => 1
  | _ => 12
def sideH : Nat → Int32 := fun k => match k with
  | 0 => 4
  | 1 => 1
  | 2 => 2
  | _ => 8
def NWl : List Cond := [(Jvm.Cond.castable "java/lang/IllegalArgumentException" "java/lang/IllegalArgumentException"), (Jvm.Cond.declares ({ cls := "java/lang/RuntimeException", name := "<init>", desc := "()V" } : Jvm.MethodName)), (Jvm.Cond.declares ({ cls := "java/lang/RuntimeException", name := "<init>", desc := "(Ljava/lang/String;)V" } : Jvm.MethodName)), (Jvm.Cond.declares ({ cls := "java/lang/Exception", name := "<init>", desc := "()V" } : Jvm.MethodName)), (Jvm.Cond.declares ({ cls := "java/lang/Exception", name := "<init>", desc := "(Ljava/lang/String;)V" } : Jvm.MethodName)), (Jvm.Cond.declares ({ cls := "java/lang/Throwable", name := "<init>", desc := "()V" } : Jvm.MethodName)), (Jvm.Cond.declares ({ cls := "java/lang/Throwable", name := "<init>", desc := "(Ljava/lang/String;)V" } : Jvm.MethodName)), (Jvm.Cond.castable "java/lang/IndexOutOfBoundsException" "java/lang/IndexOutOfBoundsException"), (Jvm.Cond.castable "java/lang/IllegalStateException" "java/lang/IllegalStateException"), (Jvm.Cond.methodLinkNest "Stowfinish$Hull" (24 : Nat) ({ cls := "Stowfinish", name := "cellOf", desc := "(II)I" } : Jvm.MethodName) "Stowfinish"), (Jvm.Cond.fieldLinkNest "Stowfinish$Ways" (50 : Nat) "Stowfinish" "SIDE_HOLES" "[I" "Stowfinish"), (Jvm.Cond.fieldLinkNest "Stowfinish$Ways" (58 : Nat) "Stowfinish" "SIDE_STEPS" "[I" "Stowfinish")]
def STl : List (String × Nat × String) := [("Stowfinish", 89, "frames or tons out of range"), ("Stowfinish", 100, "no such frame"), ("Stowfinish", 103, "tons out of range"), ("Stowfinish", 109, "no such welder"), ("Stowfinish", 111, "flaws out of range"), ("Stowfinish", 116, "no such frame or level"), ("Stowfinish", 118, "last, tons, more or lugs out of range"), ("Stowfinish", 126, "afloat, or no more blocks"), ("Stowfinish", 143, "no such block or welder"), ("Stowfinish", 152, "cannot be joined"), ("Stowfinish", 191, "cannot be put on the berth"), ("Stowfinish", 224, "no such block"), ("Stowfinish", 226, "not loose"), ("Stowfinish", 236, "no such weld"), ("Stowfinish", 244, "not untested, or scrapped"), ("Stowfinish", 249, "no such weld or welder"), ("Stowfinish", 254, "cannot be repaired"), ("Stowfinish", 268, "no such room"), ("Stowfinish", 275, "there is one, or afloat"), ("Stowfinish", 283, "painted already"), ("Stowfinish", 291, "not painted, or too much in it"), ("Stowfinish", 300, "both are the same"), ("Stowfinish", 302, "no more pipes"), ("Stowfinish", 308, "no way"), ("Stowfinish", 316, "hour out of range"), ("Stowfinish", 328, "cannot be launched"), ("Stowfinish", 330, "what out of range"), ("Stowfinish", 336, "no such cell"), ("Stowfinish", 339, "no such pipe or place")]
def NCl : List (String × String) := [("java/lang/IndexOutOfBoundsException", "java/lang/IllegalArgumentException"), ("java/lang/IndexOutOfBoundsException", "java/lang/IllegalStateException"), ("java/lang/IllegalArgumentException", "java/lang/IndexOutOfBoundsException"), ("java/lang/IllegalArgumentException", "java/lang/IllegalStateException"), ("java/lang/IllegalStateException", "java/lang/IndexOutOfBoundsException"), ("java/lang/IllegalStateException", "java/lang/IllegalArgumentException")]
def AOl : List String := ["Stowfinish$Block", "Stowfinish$Weld", "Stowfinish$Pipe", "Stowfinish$Room"]
/-- what never changes -/
def SB (w : W0) (s : State) (H : Heap) : Prop :=
  w.la.stackTraces = false ∧ w.b0 ≤ H.size ∧ vx_Zq Bundle.tN "UNASSIGNED_STACK" Bundle.steD (wA w) s H ∧ vx_Zq Bundle.tN "SUPPRESSED_SENTINEL" Bundle.listD (wA w) s H ∧
  va_Z "Stowfinish" "SIDE_STEPS" "[I" (.ref w.aS) (wA w) s H ∧ va_Z "Stowfinish" "SIDE_HOLES" "[I" (.ref w.aH) (wA w) s H ∧
  (va_X w.aS 4 sideS s H ∧ w.aS < w.b0) ∧ (va_X w.aH 4 sideH s H ∧ w.aH < w.b0) ∧ (va_X w.aX w.lX w.xs s H ∧ w.aX < w.b0) ∧
  (∀ c ∈ NWl, va_Nw c s) ∧ (∀ c ∈ STl, ∃ a, vk_R c.1 c.2.1 c.2.2 a s) ∧ (∀ c ∈ NCl, va_Nc c.1 c.2 s) ∧ (∀ c ∈ AOl, va_AO c s)
def nwk : Cond → Bool
  | .castable _ _ => true
  | .declares _ => true
  | .methodLinkNest _ _ _ _ => true
  | .fieldLinkNest _ _ _ _ _ _ => true
  | _ => false
theorem NWl_ok : ∀ c ∈ NWl, nwk c = true := by decide +kernel
theorem nwk_warm {c : Cond} {s U : State} (hk : nwk c = true) (hW : s.WarmedH U.vm) (h : va_Nw c s) : va_Nw c U := by
  cases c <;> first | exact va_Nw.warmC hW h | exact va_Nw.warmD hW h | exact va_Nw.warmM hW h | exact va_Nw.warmF hW h | exact absurd hk Bool.false_ne_true
theorem SB.to {w : W0} {s U : State} {H H1 : Heap} (h : SB w s H) (hW : s.WarmedH U.vm) (hz : H.size ≤ H1.size) (hq : ∀ a : Nat, a < H.size → ¬ wA w a → H1[a]? = H[a]?) : SB w U H1 := by
  obtain ⟨h1, h2, h3, h4, h5, h6, ⟨h7, h7b⟩, ⟨h8, h8b⟩, ⟨h9, h9b⟩, h10, h11, h12, h13⟩ := h
  have hv := hW.alike
  have hx : ∀ {b : Nat}, b < w.b0 → H1[b]? = H[b]? := fun {b} hb => hq b (Nat.lt_of_lt_of_le hb h2) (Nat.not_le.mpr hb)
  exact ⟨h1, Nat.le_trans h2 hz, vx_Zq.moved hv (h3.kept hq), vx_Zq.moved hv (h4.kept hq), va_Z.moved hv (h5.kept hq), va_Z.moved hv (h6.kept hq),
    ⟨va_X.moved hv (h7.kept (hx h7b)), h7b⟩, ⟨va_X.moved hv (h8.kept (hx h8b)), h8b⟩, ⟨va_X.moved hv (h9.kept (hx h9b)), h9b⟩,
    fun c hc => nwk_warm (NWl_ok c hc) hW (h10 c hc), fun c hc => by obtain ⟨a, ha⟩ := h11 c hc; exact ⟨a, vk_R.warm hW ha⟩, fun c hc => va_Nc.moved hv (h12 c hc), fun c hc => va_AO.moved hv (h13 c hc)⟩
def RepX (w : W0) (h : AH) (U : State) : Prop := ∃ tys ws, va_K w.dg vwCl tys U ∧ va_P w.dg vwCl ws U.heap ∧ va_D (wA w) ws ∧ Em tys ws h
def PcX (w : W0) (as : List Value) (h : AH) : Array Value → State → Prop := va_Pc as (fun U => RepX w h U ∧ SB w U U.heap)
def QcX (w : W0) (Q : Option Value → AH → Prop) : Array Value → State → Outcome → State → Prop := fun _ st o t => ∃ v h', o = .returned v ∧ Q v h' ∧ RepX w h' t ∧ va_F (wA w) st t
def XcX (w : W0) (QX : String → AH → Prop) : String → State → State → Prop := fun E st t => ∃ h', QX E h' ∧ RepX w h' t ∧ va_F (wA w) st t
/-- of a method: its class, bytes, locals, return type, room, whether a constructor, its handlers -/
abbrev MI : Type := String × ByteArray × Nat × Option FieldType × Room × Bool × List (Nat × Nat × Nat × Nat)
abbrev MI.ow (M : MI) : String := M.1
abbrev MI.cd (M : MI) : ByteArray := M.2.1
abbrev MI.ml (M : MI) : Nat := M.2.2.1
abbrev MI.rt (M : MI) : Option FieldType := M.2.2.2.1
abbrev MI.rm (M : MI) : Room := M.2.2.2.2.1
abbrev MI.ii (M : MI) : Bool := M.2.2.2.2.2.1
abbrev MI.hh (M : MI) : List (Nat × Nat × Nat × Nat) := M.2.2.2.2.2.2
def Cx (M : MI) (p : Program) (s : State) (m : MethodId) (args : Array Value) (meth : Method) (c : Code) : Prop :=
  p.tables.exec = Jvm.exec ∧ c.code = M.cd ∧ c.maxLocals = M.ml ∧ meth.sig.returnType = M.rt ∧ meth.locks = false ∧ s.vm.findClass M.ow = some m.cls ∧ (∀ t ∈ TB, t.before args s = true) ∧ (M.ii = true → meth.name = "<init>") ∧ c.exceptionTable.toList = tableOf M.hh
def LH (ls : Array Slot) (n : Nat) (Lc : List (Option Value)) : Prop := ls.size = n ∧ lv_wf ls ∧ Lc.length = n ∧ ∀ (i : Nat) (v : Value), Lc[i]? = some (some v) → v.category = 1 ∧ ls[i]? = some (.val v)
def X (w : W0) (M : MI) (Q : Option Value → AH → Prop) (QX : String → AH → Prop) (kc ns pc : Nat) (L : List (Option Value)) (st : List Value) (h : AH) : Prop :=
  ∀ (p : Program) (e : Env) (s : State) (m : MethodId) (args : Array Value) (below : List Frame) (meth : Method) (c : Code) (H : Heap) (locs : List Loc) (tys : List (ClassId × FieldType)) (ws : va_W) (ls : Array Slot),
    Cx M p s m args meth c → va_K w.dg vwCl tys s → va_P w.dg vwCl ws H → va_D (wA w) ws → Em tys ws h → va_S (wA w) s.heap H locs → SB w s s.heap → LH ls M.ml L →
    W p w.la e M.rm s m args below meth c H locs kc ns (vx_MQ below (QcX w Q) (XcX w QX) args s M.rm.cells M.rm.slots (wA w)) (F0 m pc ls st)
/-! locals -/
def LHp (Lc : List (Option Value)) : List (Nat × Value) := (List.range Lc.length).filterMap fun i => match Lc[i]? with
  | some (some v) => some (i, v)
  | _ => none
theorem LHp_mem {Lc : List (Option Value)} {i : Nat} {v : Value} : (i, v) ∈ LHp Lc ↔ Lc[i]? = some (some v) := by
  unfold LHp
  rw [List.mem_filterMap]
  constructor
  · rintro ⟨j, -, hj⟩
    split at hj
    · rename_i v' hv'
      cases hj
      exact hv'
    · cases hj
  · intro hi
    have hl := (List.getElem?_eq_some_iff.mp hi).1
    exact ⟨i, List.mem_range.mpr hl, by rw [hi]⟩
theorem LH.has {ls : Array Slot} {n : Nat} {Lc : List (Option Value)} (h : LH ls n Lc) : lv_has ls n (LHp Lc) := ⟨h.1, h.2.1, fun q hq => (h.2.2.2 q.1 q.2 (LHp_mem.mp hq)).2⟩
theorem LH.at {ls : Array Slot} {n : Nat} {Lc : List (Option Value)} (h : LH ls n Lc) {i : Nat} {v : Value} (hi : Lc[i]? = some (some v)) : ls[i]? = some (.val v) := (h.2.2.2 i v hi).2
theorem LH.put {ls ls' : Array Slot} {n i : Nat} {v : Value} {Lc : List (Option Value)} (h : LH ls n Lc) (hv : v.category = 1) (h' : lv_has ls' n ((i, v) :: (LHp Lc).filter (fun q => !(q.1 == i) && !(q.1 + 1 == i && q.2.category == 2)))) : LH ls' n (Lc.set i (some v)) := by
  refine ⟨h'.1, h'.2.1, by rw [List.length_set]; exact h.2.2.1, fun j x hj => ?_⟩
  by_cases hij : i = j
  · subst hij
    have hl : i < Lc.length := by
      have := (List.getElem?_eq_some_iff.mp hj).1
      rwa [List.length_set] at this
    rw [List.getElem?_set_self hl] at hj
    cases hj
    exact ⟨hv, h'.2.2 (i, v) List.mem_cons_self⟩
  · rw [List.getElem?_set_ne hij] at hj
    obtain ⟨hc, -⟩ := h.2.2.2 j x hj
    refine ⟨hc, h'.2.2 (j, x) (List.mem_cons_of_mem _ (List.mem_filter.mpr ⟨LHp_mem.mpr hj, ?_⟩))⟩
    simp [hc, Ne.symm hij]
theorem LHp_idx {Lc : List (Option Value)} {i : Nat} {v : Value} (hi : Lc[i]? = some (some v)) : ∃ k : Nat, (LHp Lc)[k]? = some (i, v) := by
  obtain ⟨k, hk⟩ := List.getElem?_of_mem (LHp_mem.mpr hi)
  exact ⟨k, hk⟩
section XR
variable {w : W0} {M : MI} {Q : Option Value → AH → Prop} {QX : String → AH → Prop} {kc ns pc : Nat} {L : List (Option Value)} {st : List Value} {h : AH}
theorem x_iconst {n : Int} (hd : decode M.cd pc = .ok (.iconst n, 1)) (k : X w M Q QX kc ns (pc + 1) L (.int (Int32.ofInt n) :: st) h) : X w M Q QX kc ns pc L st h := by
  intro p e s m args below meth c H locs tys ws ls C hK hP hD hE hS hB hl
  have C0 := C
  obtain ⟨hx, hb, hml, hr, hlk, hown, hts, hin, htab⟩ := C
  exact lv_iconst hx hb hd rfl (k p e s m args below meth c H locs tys ws ls C0 hK hP hD hE hS hB hl)
theorem x_bipush {n : Int} (hd : decode M.cd pc = .ok (.bipush n, 2)) (k : X w M Q QX kc ns (pc + 2) L (.int (Int8.ofInt n).toInt32 :: st) h) : X w M Q QX kc ns pc L st h := by
  intro p e s m args below meth c H locs tys ws ls C hK hP hD hE hS hB hl
  have C0 := C
  obtain ⟨hx, hb, hml, hr, hlk, hown, hts, hin, htab⟩ := C
  exact lv_bipush hx hb hd rfl (k p e s m args below meth c H locs tys ws ls C0 hK hP hD hE hS hB hl)
theorem x_sipush {n : Int} (hd : decode M.cd pc = .ok (.sipush n, 3)) (k : X w M Q QX kc ns (pc + 3) L (.int (Int16.ofInt n).toInt32 :: st) h) : X w M Q QX kc ns pc L st h := by
  intro p e s m args below meth c H locs tys ws ls C hK hP hD hE hS hB hl
  have C0 := C
  obtain ⟨hx, hb, hml, hr, hlk, hown, hts, hin, htab⟩ := C
  exact lv_sipush hx hb hd rfl (k p e s m args below meth c H locs tys ws ls C0 hK hP hD hE hS hB hl)
theorem x_null  (hd : decode M.cd pc = .ok (.aconst_null, 1)) (k : X w M Q QX kc ns (pc + 1) L (.null :: st) h) : X w M Q QX kc ns pc L st h := by
  intro p e s m args below meth c H locs tys ws ls C hK hP hD hE hS hB hl
  have C0 := C
  obtain ⟨hx, hb, hml, hr, hlk, hown, hts, hin, htab⟩ := C
  exact lv_null hx hb hd (k p e s m args below meth c H locs tys ws ls C0 hK hP hD hE hS hB hl)
theorem x_iload_n {i : Fin 4} {x : Int32} (hd : decode M.cd pc = .ok (.iload_n i, 1)) (hg : L[(i : Nat)]? = some (some (.int x))) (k : X w M Q QX kc ns (pc + 1) L (.int x :: st) h) : X w M Q QX kc ns pc L st h := by
  intro p e s m args below meth c H locs tys ws ls C hK hP hD hE hS hB hl
  have C0 := C
  obtain ⟨hx, hb, hml, hr, hlk, hown, hts, hin, htab⟩ := C
  exact lv_iload_n hx hb hd rfl (hl.at hg) (k p e s m args below meth c H locs tys ws ls C0 hK hP hD hE hS hB hl)
theorem x_iload {i : Nat} {x : Int32} (hd : decode M.cd pc = .ok (.iload i, 2)) (hg : L[i]? = some (some (.int x))) (k : X w M Q QX kc ns (pc + 2) L (.int x :: st) h) : X w M Q QX kc ns pc L st h := by
  intro p e s m args below meth c H locs tys ws ls C hK hP hD hE hS hB hl
  have C0 := C
  obtain ⟨hx, hb, hml, hr, hlk, hown, hts, hin, htab⟩ := C
  exact lv_iload hx hb hd (hl.at hg) (k p e s m args below meth c H locs tys ws ls C0 hK hP hD hE hS hB hl)
theorem x_aload_n {i : Fin 4} {x : Nat} (hd : decode M.cd pc = .ok (.aload_n i, 1)) (hg : L[(i : Nat)]? = some (some (.ref x))) (k : X w M Q QX kc ns (pc + 1) L (.ref x :: st) h) : X w M Q QX kc ns pc L st h := by
  intro p e s m args below meth c H locs tys ws ls C hK hP hD hE hS hB hl
  have C0 := C
  obtain ⟨hx, hb, hml, hr, hlk, hown, hts, hin, htab⟩ := C
  exact lv_aload_n hx hb hd rfl (hl.at hg) (k p e s m args below meth c H locs tys ws ls C0 hK hP hD hE hS hB hl)
theorem x_aload {i : Nat} {x : Nat} (hd : decode M.cd pc = .ok (.aload i, 2)) (hg : L[i]? = some (some (.ref x))) (k : X w M Q QX kc ns (pc + 2) L (.ref x :: st) h) : X w M Q QX kc ns pc L st h := by
  intro p e s m args below meth c H locs tys ws ls C hK hP hD hE hS hB hl
  have C0 := C
  obtain ⟨hx, hb, hml, hr, hlk, hown, hts, hin, htab⟩ := C
  exact lv_aload hx hb hd (hl.at hg) (k p e s m args below meth c H locs tys ws ls C0 hK hP hD hE hS hB hl)
theorem x_aloadN_n {i : Fin 4} (hd : decode M.cd pc = .ok (.aload_n i, 1)) (hg : L[(i : Nat)]? = some (some .null)) (k : X w M Q QX kc ns (pc + 1) L (.null :: st) h) : X w M Q QX kc ns pc L st h := by
  intro p e s m args below meth c H locs tys ws ls C hK hP hD hE hS hB hl
  have C0 := C
  obtain ⟨hx, hb, hml, hr, hlk, hown, hts, hin, htab⟩ := C
  exact lv_aload_nN hx hb hd rfl (hl.at hg) (k p e s m args below meth c H locs tys ws ls C0 hK hP hD hE hS hB hl)
theorem x_aloadN {i : Nat} (hd : decode M.cd pc = .ok (.aload i, 2)) (hg : L[i]? = some (some .null)) (k : X w M Q QX kc ns (pc + 2) L (.null :: st) h) : X w M Q QX kc ns pc L st h := by
  intro p e s m args below meth c H locs tys ws ls C hK hP hD hE hS hB hl
  have C0 := C
  obtain ⟨hx, hb, hml, hr, hlk, hown, hts, hin, htab⟩ := C
  exact lv_aloadN hx hb hd (hl.at hg) (k p e s m args below meth c H locs tys ws ls C0 hK hP hD hE hS hB hl)
theorem x_iadd {x y : Int32} (hd : decode M.cd pc = .ok (.iadd, 1)) (k : X w M Q QX kc ns (pc + 1) L (.int (x + y) :: st) h) : X w M Q QX kc ns pc L (.int y :: .int x :: st) h := by
  intro p e s m args below meth c H locs tys ws ls C hK hP hD hE hS hB hl
  have C0 := C
  obtain ⟨hx, hb, hml, hr, hlk, hown, hts, hin, htab⟩ := C
  exact lv_iadd hx hb hd (k p e s m args below meth c H locs tys ws ls C0 hK hP hD hE hS hB hl)
theorem x_isub {x y : Int32} (hd : decode M.cd pc = .ok (.isub, 1)) (k : X w M Q QX kc ns (pc + 1) L (.int (x - y) :: st) h) : X w M Q QX kc ns pc L (.int y :: .int x :: st) h := by
  intro p e s m args below meth c H locs tys ws ls C hK hP hD hE hS hB hl
  have C0 := C
  obtain ⟨hx, hb, hml, hr, hlk, hown, hts, hin, htab⟩ := C
  exact lv_isub hx hb hd (k p e s m args below meth c H locs tys ws ls C0 hK hP hD hE hS hB hl)
theorem x_imul {x y : Int32} (hd : decode M.cd pc = .ok (.imul, 1)) (k : X w M Q QX kc ns (pc + 1) L (.int (x * y) :: st) h) : X w M Q QX kc ns pc L (.int y :: .int x :: st) h := by
  intro p e s m args below meth c H locs tys ws ls C hK hP hD hE hS hB hl
  have C0 := C
  obtain ⟨hx, hb, hml, hr, hlk, hown, hts, hin, htab⟩ := C
  exact lv_imul hx hb hd (k p e s m args below meth c H locs tys ws ls C0 hK hP hD hE hS hB hl)
theorem x_iand {x y : Int32} (hd : decode M.cd pc = .ok (.iand, 1)) (k : X w M Q QX kc ns (pc + 1) L (.int (x &&& y) :: st) h) : X w M Q QX kc ns pc L (.int y :: .int x :: st) h := by
  intro p e s m args below meth c H locs tys ws ls C hK hP hD hE hS hB hl
  have C0 := C
  obtain ⟨hx, hb, hml, hr, hlk, hown, hts, hin, htab⟩ := C
  exact lv_iand hx hb hd (k p e s m args below meth c H locs tys ws ls C0 hK hP hD hE hS hB hl)
theorem x_ior {x y : Int32} (hd : decode M.cd pc = .ok (.ior, 1)) (k : X w M Q QX kc ns (pc + 1) L (.int (x ||| y) :: st) h) : X w M Q QX kc ns pc L (.int y :: .int x :: st) h := by
  intro p e s m args below meth c H locs tys ws ls C hK hP hD hE hS hB hl
  have C0 := C
  obtain ⟨hx, hb, hml, hr, hlk, hown, hts, hin, htab⟩ := C
  exact lv_ior hx hb hd (k p e s m args below meth c H locs tys ws ls C0 hK hP hD hE hS hB hl)
theorem x_idiv {x y : Int32} (hd : decode M.cd pc = .ok (.idiv, 1)) (hne : ¬ y = 0) (k : X w M Q QX kc ns (pc + 1) L (.int (x / y) :: st) h) : X w M Q QX kc ns pc L (.int y :: .int x :: st) h := by
  intro p e s m args below meth c H locs tys ws ls C hK hP hD hE hS hB hl
  have C0 := C
  obtain ⟨hx, hb, hml, hr, hlk, hown, hts, hin, htab⟩ := C
  exact lv_idiv hx hb hd hne (k p e s m args below meth c H locs tys ws ls C0 hK hP hD hE hS hB hl)
theorem x_irem {x y : Int32} (hd : decode M.cd pc = .ok (.irem, 1)) (hne : ¬ y = 0) (k : X w M Q QX kc ns (pc + 1) L (.int (x - x / y * y) :: st) h) : X w M Q QX kc ns pc L (.int y :: .int x :: st) h := by
  intro p e s m args below meth c H locs tys ws ls C hK hP hD hE hS hB hl
  have C0 := C
  obtain ⟨hx, hb, hml, hr, hlk, hown, hts, hin, htab⟩ := C
  exact lv_irem hx hb hd hne (k p e s m args below meth c H locs tys ws ls C0 hK hP hD hE hS hB hl)
theorem x_ineg {x : Int32} (hd : decode M.cd pc = .ok (.ineg, 1)) (k : X w M Q QX kc ns (pc + 1) L (.int (-x) :: st) h) : X w M Q QX kc ns pc L (.int x :: st) h := by
  intro p e s m args below meth c H locs tys ws ls C hK hP hD hE hS hB hl
  have C0 := C
  obtain ⟨hx, hb, hml, hr, hlk, hown, hts, hin, htab⟩ := C
  exact lv_ineg hx hb hd (k p e s m args below meth c H locs tys ws ls C0 hK hP hD hE hS hB hl)
theorem x_iushr {x y : Int32} (hd : decode M.cd pc = .ok (.iushr, 1)) (k : X w M Q QX kc ns (pc + 1) L (.int (x.toUInt32 >>> (y.toUInt32 &&& Int32.toUInt32 31)).toInt32 :: st) h) : X w M Q QX kc ns pc L (.int y :: .int x :: st) h := by
  intro p e s m args below meth c H locs tys ws ls C hK hP hD hE hS hB hl
  have C0 := C
  obtain ⟨hx, hb, hml, hr, hlk, hown, hts, hin, htab⟩ := C
  exact lv_iushr hx hb hd rfl (k p e s m args below meth c H locs tys ws ls C0 hK hP hD hE hS hB hl)
theorem x_ishr {x y : Int32} (hd : decode M.cd pc = .ok (.ishr, 1)) (k : X w M Q QX kc ns (pc + 1) L (.int (x >>> (y &&& 31)) :: st) h) : X w M Q QX kc ns pc L (.int y :: .int x :: st) h := by
  intro p e s m args below meth c H locs tys ws ls C hK hP hD hE hS hB hl
  have C0 := C
  obtain ⟨hx, hb, hml, hr, hlk, hown, hts, hin, htab⟩ := C
  exact lv_ishr hx hb hd (k p e s m args below meth c H locs tys ws ls C0 hK hP hD hE hS hB hl)
theorem x_i2l {x : Int32} (hd : decode M.cd pc = .ok (.i2l, 1)) (k : X w M Q QX kc ns (pc + 1) L (.long x.toInt64 :: st) h) : X w M Q QX kc ns pc L (.int x :: st) h := by
  intro p e s m args below meth c H locs tys ws ls C hK hP hD hE hS hB hl
  have C0 := C
  obtain ⟨hx, hb, hml, hr, hlk, hown, hts, hin, htab⟩ := C
  exact lv_i2l hx hb hd rfl (k p e s m args below meth c H locs tys ws ls C0 hK hP hD hE hS hB hl)
theorem x_dup {va : Value} (hd : decode M.cd pc = .ok (.dup, 1)) (hva : va.category = 1) (k : X w M Q QX kc ns (pc + 1) L (va :: va :: st) h) : X w M Q QX kc ns pc L (va :: st) h := by
  intro p e s m args below meth c H locs tys ws ls C hK hP hD hE hS hB hl
  have C0 := C
  obtain ⟨hx, hb, hml, hr, hlk, hown, hts, hin, htab⟩ := C
  exact lv_dup hx hb hd hva (k p e s m args below meth c H locs tys ws ls C0 hK hP hD hE hS hB hl)
theorem x_dup2 {va vb : Value} (hd : decode M.cd pc = .ok (.dup2, 1)) (hva : va.category = 1) (hvb : vb.category = 1) (k : X w M Q QX kc ns (pc + 1) L (va :: vb :: va :: vb :: st) h) : X w M Q QX kc ns pc L (va :: vb :: st) h := by
  intro p e s m args below meth c H locs tys ws ls C hK hP hD hE hS hB hl
  have C0 := C
  obtain ⟨hx, hb, hml, hr, hlk, hown, hts, hin, htab⟩ := C
  exact lv_dup2_11 hx hb hd hva hvb (k p e s m args below meth c H locs tys ws ls C0 hK hP hD hE hS hB hl)
theorem x_pop {va : Value} (hd : decode M.cd pc = .ok (.pop, 1)) (hva : va.category = 1) (k : X w M Q QX kc ns (pc + 1) L st h) : X w M Q QX kc ns pc L (va :: st) h := by
  intro p e s m args below meth c H locs tys ws ls C hK hP hD hE hS hB hl
  have C0 := C
  obtain ⟨hx, hb, hml, hr, hlk, hown, hts, hin, htab⟩ := C
  exact lv_pop hx hb hd hva (k p e s m args below meth c H locs tys ws ls C0 hK hP hD hE hS hB hl)
theorem x_istore_n {i : Fin 4} {x : Int32} (hd : decode M.cd pc = .ok (.istore_n i, 1)) (hi : (i : Nat) < M.ml) (k : X w M Q QX kc ns (pc + 1) (L.set i (some (.int x))) st h) : X w M Q QX kc ns pc L (.int x :: st) h := by
  intro p e s m args below meth c H locs tys ws ls C hK hP hD hE hS hB hl
  have C0 := C
  obtain ⟨hx, hb, hml, hr, hlk, hown, hts, hin, htab⟩ := C
  exact lv_istore_n hx hb hd rfl hl.has hi rfl (fun ls' hl' => k p e s m args below meth c H locs tys ws ls' C0 hK hP hD hE hS hB (hl.put rfl hl'))
theorem x_istore {i : Nat} {x : Int32} (hd : decode M.cd pc = .ok (.istore i, 2)) (hi : i < M.ml) (k : X w M Q QX kc ns (pc + 2) (L.set i (some (.int x))) st h) : X w M Q QX kc ns pc L (.int x :: st) h := by
  intro p e s m args below meth c H locs tys ws ls C hK hP hD hE hS hB hl
  have C0 := C
  obtain ⟨hx, hb, hml, hr, hlk, hown, hts, hin, htab⟩ := C
  exact lv_istore hx hb hd hl.has hi rfl (fun ls' hl' => k p e s m args below meth c H locs tys ws ls' C0 hK hP hD hE hS hB (hl.put rfl hl'))
theorem x_astore_n {i : Fin 4} {x : Nat} (hd : decode M.cd pc = .ok (.astore_n i, 1)) (hi : (i : Nat) < M.ml) (k : X w M Q QX kc ns (pc + 1) (L.set i (some (.ref x))) st h) : X w M Q QX kc ns pc L (.ref x :: st) h := by
  intro p e s m args below meth c H locs tys ws ls C hK hP hD hE hS hB hl
  have C0 := C
  obtain ⟨hx, hb, hml, hr, hlk, hown, hts, hin, htab⟩ := C
  exact lv_astore_n hx hb hd rfl hl.has hi rfl (fun ls' hl' => k p e s m args below meth c H locs tys ws ls' C0 hK hP hD hE hS hB (hl.put rfl hl'))
theorem x_astore {i : Nat} {x : Nat} (hd : decode M.cd pc = .ok (.astore i, 2)) (hi : i < M.ml) (k : X w M Q QX kc ns (pc + 2) (L.set i (some (.ref x))) st h) : X w M Q QX kc ns pc L (.ref x :: st) h := by
  intro p e s m args below meth c H locs tys ws ls C hK hP hD hE hS hB hl
  have C0 := C
  obtain ⟨hx, hb, hml, hr, hlk, hown, hts, hin, htab⟩ := C
  exact lv_astore hx hb hd hl.has hi rfl (fun ls' hl' => k p e s m args below meth c H locs tys ws ls' C0 hK hP hD hE hS hB (hl.put rfl hl'))
theorem x_astoreN_n {i : Fin 4}  (hd : decode M.cd pc = .ok (.astore_n i, 1)) (hi : (i : Nat) < M.ml) (k : X w M Q QX kc ns (pc + 1) (L.set i (some (.null))) st h) : X w M Q QX kc ns pc L (.null :: st) h := by
  intro p e s m args below meth c H locs tys ws ls C hK hP hD hE hS hB hl
  have C0 := C
  obtain ⟨hx, hb, hml, hr, hlk, hown, hts, hin, htab⟩ := C
  exact lv_astore_nN hx hb hd rfl hl.has hi rfl (fun ls' hl' => k p e s m args below meth c H locs tys ws ls' C0 hK hP hD hE hS hB (hl.put rfl hl'))
theorem x_astoreN {i : Nat}  (hd : decode M.cd pc = .ok (.astore i, 2)) (hi : i < M.ml) (k : X w M Q QX kc ns (pc + 2) (L.set i (some (.null))) st h) : X w M Q QX kc ns pc L (.null :: st) h := by
  intro p e s m args below meth c H locs tys ws ls C hK hP hD hE hS hB hl
  have C0 := C
  obtain ⟨hx, hb, hml, hr, hlk, hown, hts, hin, htab⟩ := C
  exact lv_astoreN hx hb hd hl.has hi rfl (fun ls' hl' => k p e s m args below meth c H locs tys ws ls' C0 hK hP hD hE hS hB (hl.put rfl hl'))
theorem x_iinc {i : Nat} {n : Int} {x : Int32} (hd : decode M.cd pc = .ok (.iinc i n, 3)) (hg : L[i]? = some (some (.int x))) (k : X w M Q QX kc ns (pc + 3) (L.set i (some (.int (x + Int32.ofInt n)))) st h) : X w M Q QX kc ns pc L st h := by
  intro p e s m args below meth c H locs tys ws ls C hK hP hD hE hS hB hl
  have C0 := C
  obtain ⟨hx, hb, hml, hr, hlk, hown, hts, hin, htab⟩ := C
  obtain ⟨q, hq⟩ := LHp_idx hg
  have hi : i < M.ml := by rw [← hl.2.2.1]; exact (List.getElem?_eq_some_iff.mp hg).1
  exact lv_iinc hx hb hd hl.has hq rfl hi rfl (fun ls' hl' => k p e s m args below meth c H locs tys ws ls' C0 hK hP hD hE hS hB (hl.put rfl hl'))
theorem x_icmp_eq {x y : Int32} {off : Int} {tgt : Nat} (hd : decode M.cd pc = .ok (.if_icmp .eq off, 3)) (ht : (pc : Int) + off = (tgt : Int)) (kt : x = y → X w M Q QX kc ns tgt L st h) (kf : ¬ x = y → X w M Q QX kc ns (pc + 3) L st h) : X w M Q QX kc ns pc L (.int y :: .int x :: st) h := by
  intro p e s m args below meth c H locs tys ws ls C hK hP hD hE hS hB hl
  have C0 := C
  obtain ⟨hx, hb, hml, hr, hlk, hown, hts, hin, htab⟩ := C
  exact lv_icmp_eq hx hb hd ht (fun z => kt z p e s m args below meth c H locs tys ws ls C0 hK hP hD hE hS hB hl) (fun z => kf z p e s m args below meth c H locs tys ws ls C0 hK hP hD hE hS hB hl)
theorem x_icmp_ne {x y : Int32} {off : Int} {tgt : Nat} (hd : decode M.cd pc = .ok (.if_icmp .ne off, 3)) (ht : (pc : Int) + off = (tgt : Int)) (kt : ¬ x = y → X w M Q QX kc ns tgt L st h) (kf : x = y → X w M Q QX kc ns (pc + 3) L st h) : X w M Q QX kc ns pc L (.int y :: .int x :: st) h := by
  intro p e s m args below meth c H locs tys ws ls C hK hP hD hE hS hB hl
  have C0 := C
  obtain ⟨hx, hb, hml, hr, hlk, hown, hts, hin, htab⟩ := C
  exact lv_icmp_ne hx hb hd ht (fun z => kt z p e s m args below meth c H locs tys ws ls C0 hK hP hD hE hS hB hl) (fun z => kf z p e s m args below meth c H locs tys ws ls C0 hK hP hD hE hS hB hl)
theorem x_icmp_lt {x y : Int32} {off : Int} {tgt : Nat} (hd : decode M.cd pc = .ok (.if_icmp .lt off, 3)) (ht : (pc : Int) + off = (tgt : Int)) (kt : x < y → X w M Q QX kc ns tgt L st h) (kf : ¬ x < y → X w M Q QX kc ns (pc + 3) L st h) : X w M Q QX kc ns pc L (.int y :: .int x :: st) h := by
  intro p e s m args below meth c H locs tys ws ls C hK hP hD hE hS hB hl
  have C0 := C
  obtain ⟨hx, hb, hml, hr, hlk, hown, hts, hin, htab⟩ := C
  exact lv_icmp_lt hx hb hd ht (fun z => kt z p e s m args below meth c H locs tys ws ls C0 hK hP hD hE hS hB hl) (fun z => kf z p e s m args below meth c H locs tys ws ls C0 hK hP hD hE hS hB hl)
theorem x_icmp_ge {x y : Int32} {off : Int} {tgt : Nat} (hd : decode M.cd pc = .ok (.if_icmp .ge off, 3)) (ht : (pc : Int) + off = (tgt : Int)) (kt : y ≤ x → X w M Q QX kc ns tgt L st h) (kf : ¬ y ≤ x → X w M Q QX kc ns (pc + 3) L st h) : X w M Q QX kc ns pc L (.int y :: .int x :: st) h := by
  intro p e s m args below meth c H locs tys ws ls C hK hP hD hE hS hB hl
  have C0 := C
  obtain ⟨hx, hb, hml, hr, hlk, hown, hts, hin, htab⟩ := C
  exact lv_icmp_ge hx hb hd ht (fun z => kt z p e s m args below meth c H locs tys ws ls C0 hK hP hD hE hS hB hl) (fun z => kf z p e s m args below meth c H locs tys ws ls C0 hK hP hD hE hS hB hl)
theorem x_icmp_gt {x y : Int32} {off : Int} {tgt : Nat} (hd : decode M.cd pc = .ok (.if_icmp .gt off, 3)) (ht : (pc : Int) + off = (tgt : Int)) (kt : y < x → X w M Q QX kc ns tgt L st h) (kf : ¬ y < x → X w M Q QX kc ns (pc + 3) L st h) : X w M Q QX kc ns pc L (.int y :: .int x :: st) h := by
  intro p e s m args below meth c H locs tys ws ls C hK hP hD hE hS hB hl
  have C0 := C
  obtain ⟨hx, hb, hml, hr, hlk, hown, hts, hin, htab⟩ := C
  exact lv_icmp_gt hx hb hd ht (fun z => kt z p e s m args below meth c H locs tys ws ls C0 hK hP hD hE hS hB hl) (fun z => kf z p e s m args below meth c H locs tys ws ls C0 hK hP hD hE hS hB hl)
theorem x_icmp_le {x y : Int32} {off : Int} {tgt : Nat} (hd : decode M.cd pc = .ok (.if_icmp .le off, 3)) (ht : (pc : Int) + off = (tgt : Int)) (kt : x ≤ y → X w M Q QX kc ns tgt L st h) (kf : ¬ x ≤ y → X w M Q QX kc ns (pc + 3) L st h) : X w M Q QX kc ns pc L (.int y :: .int x :: st) h := by
  intro p e s m args below meth c H locs tys ws ls C hK hP hD hE hS hB hl
  have C0 := C
  obtain ⟨hx, hb, hml, hr, hlk, hown, hts, hin, htab⟩ := C
  exact lv_icmp_le hx hb hd ht (fun z => kt z p e s m args below meth c H locs tys ws ls C0 hK hP hD hE hS hB hl) (fun z => kf z p e s m args below meth c H locs tys ws ls C0 hK hP hD hE hS hB hl)
theorem x_if_eq {x : Int32} {off : Int} {tgt : Nat} (hd : decode M.cd pc = .ok (.ifCond .eq off, 3)) (ht : (pc : Int) + off = (tgt : Int)) (kt : x = 0 → X w M Q QX kc ns tgt L st h) (kf : ¬ x = 0 → X w M Q QX kc ns (pc + 3) L st h) : X w M Q QX kc ns pc L (.int x :: st) h := by
  intro p e s m args below meth c H locs tys ws ls C hK hP hD hE hS hB hl
  have C0 := C
  obtain ⟨hx, hb, hml, hr, hlk, hown, hts, hin, htab⟩ := C
  exact lv_if_eq hx hb hd ht (fun z => kt z p e s m args below meth c H locs tys ws ls C0 hK hP hD hE hS hB hl) (fun z => kf z p e s m args below meth c H locs tys ws ls C0 hK hP hD hE hS hB hl)
theorem x_if_ne {x : Int32} {off : Int} {tgt : Nat} (hd : decode M.cd pc = .ok (.ifCond .ne off, 3)) (ht : (pc : Int) + off = (tgt : Int)) (kt : ¬ x = 0 → X w M Q QX kc ns tgt L st h) (kf : x = 0 → X w M Q QX kc ns (pc + 3) L st h) : X w M Q QX kc ns pc L (.int x :: st) h := by
  intro p e s m args below meth c H locs tys ws ls C hK hP hD hE hS hB hl
  have C0 := C
  obtain ⟨hx, hb, hml, hr, hlk, hown, hts, hin, htab⟩ := C
  exact lv_if_ne hx hb hd ht (fun z => kt z p e s m args below meth c H locs tys ws ls C0 hK hP hD hE hS hB hl) (fun z => kf z p e s m args below meth c H locs tys ws ls C0 hK hP hD hE hS hB hl)
theorem x_if_lt {x : Int32} {off : Int} {tgt : Nat} (hd : decode M.cd pc = .ok (.ifCond .lt off, 3)) (ht : (pc : Int) + off = (tgt : Int)) (kt : x < 0 → X w M Q QX kc ns tgt L st h) (kf : ¬ x < 0 → X w M Q QX kc ns (pc + 3) L st h) : X w M Q QX kc ns pc L (.int x :: st) h := by
  intro p e s m args below meth c H locs tys ws ls C hK hP hD hE hS hB hl
  have C0 := C
  obtain ⟨hx, hb, hml, hr, hlk, hown, hts, hin, htab⟩ := C
  exact lv_if_lt hx hb hd ht (fun z => kt z p e s m args below meth c H locs tys ws ls C0 hK hP hD hE hS hB hl) (fun z => kf z p e s m args below meth c H locs tys ws ls C0 hK hP hD hE hS hB hl)
theorem x_if_ge {x : Int32} {off : Int} {tgt : Nat} (hd : decode M.cd pc = .ok (.ifCond .ge off, 3)) (ht : (pc : Int) + off = (tgt : Int)) (kt : 0 ≤ x → X w M Q QX kc ns tgt L st h) (kf : ¬ 0 ≤ x → X w M Q QX kc ns (pc + 3) L st h) : X w M Q QX kc ns pc L (.int x :: st) h := by
  intro p e s m args below meth c H locs tys ws ls C hK hP hD hE hS hB hl
  have C0 := C
  obtain ⟨hx, hb, hml, hr, hlk, hown, hts, hin, htab⟩ := C
  exact lv_if_ge hx hb hd ht (fun z => kt z p e s m args below meth c H locs tys ws ls C0 hK hP hD hE hS hB hl) (fun z => kf z p e s m args below meth c H locs tys ws ls C0 hK hP hD hE hS hB hl)
theorem x_if_gt {x : Int32} {off : Int} {tgt : Nat} (hd : decode M.cd pc = .ok (.ifCond .gt off, 3)) (ht : (pc : Int) + off = (tgt : Int)) (kt : 0 < x → X w M Q QX kc ns tgt L st h) (kf : ¬ 0 < x → X w M Q QX kc ns (pc + 3) L st h) : X w M Q QX kc ns pc L (.int x :: st) h := by
  intro p e s m args below meth c H locs tys ws ls C hK hP hD hE hS hB hl
  have C0 := C
  obtain ⟨hx, hb, hml, hr, hlk, hown, hts, hin, htab⟩ := C
  exact lv_if_gt hx hb hd ht (fun z => kt z p e s m args below meth c H locs tys ws ls C0 hK hP hD hE hS hB hl) (fun z => kf z p e s m args below meth c H locs tys ws ls C0 hK hP hD hE hS hB hl)
theorem x_if_le {x : Int32} {off : Int} {tgt : Nat} (hd : decode M.cd pc = .ok (.ifCond .le off, 3)) (ht : (pc : Int) + off = (tgt : Int)) (kt : x ≤ 0 → X w M Q QX kc ns tgt L st h) (kf : ¬ x ≤ 0 → X w M Q QX kc ns (pc + 3) L st h) : X w M Q QX kc ns pc L (.int x :: st) h := by
  intro p e s m args below meth c H locs tys ws ls C hK hP hD hE hS hB hl
  have C0 := C
  obtain ⟨hx, hb, hml, hr, hlk, hown, hts, hin, htab⟩ := C
  exact lv_if_le hx hb hd ht (fun z => kt z p e s m args below meth c H locs tys ws ls C0 hK hP hD hE hS hB hl) (fun z => kf z p e s m args below meth c H locs tys ws ls C0 hK hP hD hE hS hB hl)
theorem x_acmp_ne {rx ry : Option Nat} {off : Int} {tgt : Nat} (hd : decode M.cd pc = .ok (.if_acmp .ne off, 3)) (ht : (pc : Int) + off = (tgt : Int)) (kt : ¬ rx = ry → X w M Q QX kc ns tgt L st h) (kf : rx = ry → X w M Q QX kc ns (pc + 3) L st h) : X w M Q QX kc ns pc L (va_rf ry :: va_rf rx :: st) h := by
  intro p e s m args below meth c H locs tys ws ls C hK hP hD hE hS hB hl
  have C0 := C
  obtain ⟨hx, hb, hml, hr, hlk, hown, hts, hin, htab⟩ := C
  exact lv_acmp_ne hx hb hd ht (fun z => kt z p e s m args below meth c H locs tys ws ls C0 hK hP hD hE hS hB hl) (fun z => kf z p e s m args below meth c H locs tys ws ls C0 hK hP hD hE hS hB hl)
theorem x_goto {off : Int} {tgt : Nat} (hd : decode M.cd pc = .ok (.goto off, 3)) (ht : (pc : Int) + off = (tgt : Int)) (k : X w M Q QX kc ns tgt L st h) : X w M Q QX kc ns pc L st h := by
  intro p e s m args below meth c H locs tys ws ls C hK hP hD hE hS hB hl
  have C0 := C
  obtain ⟨hx, hb, hml, hr, hlk, hown, hts, hin, htab⟩ := C
  exact lv_goto hx hb hd ht (k p e s m args below meth c H locs tys ws ls C0 hK hP hD hE hS hB hl)
theorem x_ifnull {x : Nat} {off : Int} (hd : decode M.cd pc = .ok (.ifnull off, 3)) (k : X w M Q QX kc ns (pc + 3) L st h) : X w M Q QX kc ns pc L (.ref x :: st) h := by
  intro p e s m args below meth c H locs tys ws ls C hK hP hD hE hS hB hl
  have C0 := C
  obtain ⟨hx, hb, hml, hr, hlk, hown, hts, hin, htab⟩ := C
  exact lv_ifnull hx hb hd (k p e s m args below meth c H locs tys ws ls C0 hK hP hD hE hS hB hl)
theorem x_ifnullN {off : Int} {tgt : Nat} (hd : decode M.cd pc = .ok (.ifnull off, 3)) (ht : (pc : Int) + off = (tgt : Int)) (k : X w M Q QX kc ns tgt L st h) : X w M Q QX kc ns pc L (.null :: st) h := by
  intro p e s m args below meth c H locs tys ws ls C hK hP hD hE hS hB hl
  have C0 := C
  obtain ⟨hx, hb, hml, hr, hlk, hown, hts, hin, htab⟩ := C
  exact lv_ifnullN hx hb hd ht (k p e s m args below meth c H locs tys ws ls C0 hK hP hD hE hS hB hl)
theorem x_ifnonnull {x : Nat} {off : Int} {tgt : Nat} (hd : decode M.cd pc = .ok (.ifnonnull off, 3)) (ht : (pc : Int) + off = (tgt : Int)) (k : X w M Q QX kc ns tgt L st h) : X w M Q QX kc ns pc L (.ref x :: st) h := by
  intro p e s m args below meth c H locs tys ws ls C hK hP hD hE hS hB hl
  have C0 := C
  obtain ⟨hx, hb, hml, hr, hlk, hown, hts, hin, htab⟩ := C
  exact lv_ifnonnull hx hb hd ht (k p e s m args below meth c H locs tys ws ls C0 hK hP hD hE hS hB hl)
theorem x_ifnonnullN {off : Int} (hd : decode M.cd pc = .ok (.ifnonnull off, 3)) (k : X w M Q QX kc ns (pc + 3) L st h) : X w M Q QX kc ns pc L (.null :: st) h := by
  intro p e s m args below meth c H locs tys ws ls C hK hP hD hE hS hB hl
  have C0 := C
  obtain ⟨hx, hb, hml, hr, hlk, hown, hts, hin, htab⟩ := C
  exact lv_ifnonnullN hx hb hd (k p e s m args below meth c H locs tys ws ls C0 hK hP hD hE hS hB hl)
theorem x_tabIn {dflt lo hi : Int} {offs : Array Int} {len tgt : Nat} {x : Int32} {off : Int} (hd : decode M.cd pc = .ok (.tableswitch dflt lo hi offs, len)) (h1 : ¬ x.toInt < lo) (h2 : ¬ hi < x.toInt) (ho : offs[(x.toInt - lo).toNat]? = some off) (ht : (pc : Int) + off = (tgt : Int)) (k : X w M Q QX kc ns tgt L st h) : X w M Q QX kc ns pc L (.int x :: st) h := by
  intro p e s m args below meth c H locs tys ws ls C hK hP hD hE hS hB hl
  have C0 := C
  obtain ⟨hx, hb, hml, hr, hlk, hown, hts, hin, htab⟩ := C
  exact lv_tableIn hx hb hd h1 h2 ho ht (k p e s m args below meth c H locs tys ws ls C0 hK hP hD hE hS hB hl)
theorem x_tabOut {dflt lo hi : Int} {offs : Array Int} {len tgt : Nat} {x : Int32} (hd : decode M.cd pc = .ok (.tableswitch dflt lo hi offs, len)) (h1 : x.toInt < lo ∨ hi < x.toInt) (ht : (pc : Int) + dflt = (tgt : Int)) (k : X w M Q QX kc ns tgt L st h) : X w M Q QX kc ns pc L (.int x :: st) h := by
  intro p e s m args below meth c H locs tys ws ls C hK hP hD hE hS hB hl
  have C0 := C
  obtain ⟨hx, hb, hml, hr, hlk, hown, hts, hin, htab⟩ := C
  exact lv_tableOut hx hb hd h1 ht (k p e s m args below meth c H locs tys ws ls C0 hK hP hD hE hS hB hl)
theorem x_ldc {idx : Nat} {v : Int32} (hd : decode M.cd pc = .ok (.ldc idx, 2)) (hc : Cond.constant M.ow idx v ∈ TB) (k : X w M Q QX kc ns (pc + 2) L (.int v :: st) h) : X w M Q QX kc ns pc L st h := by
  intro p e s m args below meth c H locs tys ws ls C hK hP hD hE hS hB hl
  have C0 := C
  obtain ⟨hx, hb, hml, hr, hlk, hown, hts, hin, htab⟩ := C
  exact lv_ldc hx hb hown (hts _ hc) hd (k p e s m args below meth c H locs tys ws ls C0 hK hP hD hE hS hB hl)
end XR


/-! THE CLAIM (lw_P, lw_Q, lw_pre_spec and what stands behind lw_walk: starting text, kit/laws/SKELETON) -/
def lw_P (b : Addr) (xs : List Int32) (args : Array Value) (s : State) : Prop := args = #[.ref b] ∧ s.IntsAt b xs ∧ xs.length ≤ 260 ∧ (Jvm.Cond.and given_1 narrow_1).before args s = true
def lw_Q (_ : Array Value) (s : State) (o : Outcome) (t : State) : Prop := o = .returned (some (.int 1)) ∧ Framed s o t [] 600074 7301550

/-- what never changes, at the entry -/
theorem lw_wld {l : Launch} {args : Array Value} {s : State} {b L : Nat} {xs : Nat → Int32} (hl : l.stackTraces = false) (htl : ∀ w ∈ lw_tbl, w.before args s = true) (hgv : (Jvm.Cond.and given_1 narrow_1).before args s = true) (hX : va_X b L xs s s.heap) (hb : b < s.heap.size) : ∃ w : W0, w.la = l ∧ w.aX = b ∧ w.lX = L ∧ w.b0 = s.heap.size ∧ va_K w.dg vwCl [] s ∧ SB w s s.heap := by
  have ht : ∀ w ∈ tables_1, w.before args s = true := fun w hw => htl w (List.mem_append_right _ hw)
  have hs := flat_of_before _ hgv
  have hA : ∀ a : Nat, a < s.heap.size → ¬ (fun q : Nat => s.heap.size ≤ q) a := fun a ha => Nat.not_le.mpr ha
  obtain ⟨D, hK⟩ := cls_at (s := s) (args := args) (fun w hw => htl w (List.mem_filter.mp hw).1)
  obtain ⟨aS, zS, xS, lS⟩ := row_at (n := "SIDE_STEPS") (f := sideS) (A := fun q => s.heap.size ≤ q) (ht (.laysStatic "Stowfinish" "SIDE_STEPS" "[I") (by decide +kernel)) (ht (.initialized "Stowfinish") (by decide +kernel)) (hs (.arrayOf (.static "Stowfinish" "SIDE_STEPS" "[I") .int) (by decide +kernel)) (hs (.eq (.length (.static "Stowfinish" "SIDE_STEPS" "[I")) (.int 4)) (by decide +kernel)) (hs (.eq (.elem (.static "Stowfinish" "SIDE_STEPS" "[I") (.int 0)) (.int (sideS 0))) (by decide +kernel)) (hs (.eq (.elem (.static "Stowfinish" "SIDE_STEPS" "[I") (.int 1)) (.int (sideS 1))) (by decide +kernel)) (hs (.eq (.elem (.static "Stowfinish" "SIDE_STEPS" "[I") (.int 2)) (.int (sideS 2))) (by decide +kernel)) (hs (.eq (.elem (.static "Stowfinish" "SIDE_STEPS" "[I") (.int 3)) (.int (sideS 3))) (by decide +kernel)) hA
  obtain ⟨aH, zH, xH, lH⟩ := row_at (n := "SIDE_HOLES") (f := sideH) (A := fun q => s.heap.size ≤ q) (ht (.laysStatic "Stowfinish" "SIDE_HOLES" "[I") (by decide +kernel)) (ht (.initialized "Stowfinish") (by decide +kernel)) (hs (.arrayOf (.static "Stowfinish" "SIDE_HOLES" "[I") .int) (by decide +kernel)) (hs (.eq (.length (.static "Stowfinish" "SIDE_HOLES" "[I")) (.int 4)) (by decide +kernel)) (hs (.eq (.elem (.static "Stowfinish" "SIDE_HOLES" "[I") (.int 0)) (.int (sideH 0))) (by decide +kernel)) (hs (.eq (.elem (.static "Stowfinish" "SIDE_HOLES" "[I") (.int 1)) (.int (sideH 1))) (by decide +kernel)) (hs (.eq (.elem (.static "Stowfinish" "SIDE_HOLES" "[I") (.int 2)) (.int (sideH 2))) (by decide +kernel)) (hs (.eq (.elem (.static "Stowfinish" "SIDE_HOLES" "[I") (.int 3)) (.int (sideH 3))) (by decide +kernel)) hA
  refine ⟨(l, D, s.heap.size, aS, aH, b, L, xs), rfl, rfl, rfl, rfl, hK, hl, Nat.le_refl _, ?_, ?_, zS, zH, ⟨xS, lS⟩, ⟨xH, lH⟩, ⟨hX, hb⟩, ?_, ?_, ?_, ?_⟩
  · exact vx_Zqof (ht (.laysStatic Bundle.tN "UNASSIGNED_STACK" Bundle.steD) (by decide +kernel)) (ht (.initialized Bundle.tN) (by decide +kernel)) (hs (.isRef (.static Bundle.tN "UNASSIGNED_STACK" Bundle.steD)) (by decide +kernel)) hA
  · exact vx_Zqof (ht (.laysStatic Bundle.tN "SUPPRESSED_SENTINEL" Bundle.listD) (by decide +kernel)) (ht (.initialized Bundle.tN) (by decide +kernel)) (hs (.isRef (.static Bundle.tN "SUPPRESSED_SENTINEL" Bundle.listD)) (by decide +kernel)) hA
  · exact fun c hc => va_Nw.of (nw_ont c hc) (ht c (nw_in c hc))
  · exact fun c hc => str_at (ht _ (st_in c hc)) (hs _ (st_ex c hc))
  · exact fun c hc => va_Nc.of (hs _ (nc_in c hc))
  · exact fun c hc => va_AO.of (ht _ (ao_in c hc))
theorem rn_em {θ : Nat → Nat} : RN θ emH emH := ⟨fun t h => absurd rfl h, fun t u h => absurd rfl h, fun a h => absurd rfl h, fun t k b h => absurd rfl h⟩
set_option maxHeartbeats 4000000 in
theorem lw_met (l : Launch) (hflags : l.flags = flags0) (b n : Nat) (xs : List Int32) : vx_Met l x (Jvm.Cond.code x code maxLocals ret :: tables_1) room_1 (fun a s => lw_P b xs a s ∧ s.heap.size = n) (fun _ _ o _ => o = .returned (some (.int 1))) (fun _ _ _ => False) 600074 7301550 (fun q => n ≤ q) := by
  refine vx_ofW (cc := code) (maxL := maxLocals) (ret := ret) (by decide) rfl (fun p e s m args below meth c s₁ B hml htab hv => ?_)
  obtain ⟨⟨rfl, hx, hbd, hgv⟩, rfl⟩ := hv
  obtain ⟨scr, harrAt, hlist, hof, hsmall⟩ := hx
  obtain ⟨hcb, hkn, -, -⟩ := State.arrayAt?_spec harrAt
  have hts0 : ∀ c ∈ (Jvm.Cond.code x code maxLocals ret :: tables_1), c.before #[Value.ref b] s = true := atoms_spec (ws := Jvm.Cond.code x code maxLocals ret :: tables_1) B.pre
  have hts : ∀ w ∈ lw_tbl, w.before #[Value.ref b] s = true := k2_hts_sels lw_privs (fun w hw => hts0 w (List.mem_cons_of_mem _ hw)) lw_privs_ok
  have hsz : scr.slots.size = xs.length := by rw [← Array.length_toList, hlist, List.length_map]
  have hval : ∀ j : Nat, j < xs.length → scr.slots[j]? = some (.int (xs.getD j 0)) := fun j hj => by
    rw [← Array.getElem?_toList, hlist]
    simp [hj]
  have hbl : b < s.heap.size := (Array.getElem?_eq_some_iff.mp hcb).1
  have hX : va_X b xs.length (fun j => xs.getD j 0) s s.heap := ⟨scr, hcb, hof, hkn, hsz, hval⟩
  obtain ⟨w, rfl, e1, e2, e3, hK, hSB⟩ := lw_wld (l := l) (by unfold Launch.stackTraces; rw [hflags]; decide) hts hgv hX hbl
  have hlaw := law_all (w := w) (κ := emH) (by rw [e2]; omega) (fun _ => rfl)
  have hZ := hlaw (fun _ => b) emH rn_em e1.symm (fun v hv => Or.inl (by
    rcases List.mem_cons.mp hv with h | h
    · exact Option.some.inj h
    · simp at h)) (fun v hv => nomatch hv)
  have K := hZ p e s m #[Value.ref b] below meth c s.heap [] [] [] _ ⟨B.exec, B.bytes, hml, B.returns, B.notSynchronized, findClass_of_methodNamed B.named, fun t ht => hts t (List.mem_filter.mp ht).1, fun h => absurd h (by decide), by
    cases hq : c.exceptionTable.toList with
    | nil => rfl
    | cons a r => exact absurd (by rw [hq]; exact List.mem_cons_self) (htab a)⟩ hK (fun k q h => by simp at h) ⟨fun i j p q h => by simp at h, fun k q h => by simp at h⟩ ⟨fun a h => absurd rfl h, fun q0 a e h => by simp at h⟩ va_S.rf hSB (LH_entry (as := [.ref b]) (n := 17) (Nat.le_of_ble_eq_true rfl) (fun v hv => by
      rcases List.mem_cons.mp hv with h | h
      · rw [h]; rfl
      · simp at h))
  show W p w.la e room_1 s m #[Value.ref b] below meth c s.heap [] 0 0 _ (entryFrame m ([Value.ref b] : List Value).toArray 17)
  rw [lg_entry_eq]
  intro T hT X9
  obtain ⟨t, a1, o, b1, b2, b3⟩ := K T hT X9
  refine ⟨t, a1, o, b1, b2, ?_⟩
  rcases b3 with ⟨⟨v, h', e9, q9, -⟩, L, hF, hL⟩ | ⟨q, -, E, ce, L, ⟨h', z, -⟩, -⟩
  · refine Or.inl ⟨by rw [e9, q9], L, hF, fun q hq => ?_⟩
    rw [← e3]
    exact hL q hq
  · exact z.elim
theorem lw_walk (l : Launch) (hflags : l.flags = flags0) (b : Addr) (xs : List Int32) : MetFree l x (headSpec (Jvm.Cond.code x code maxLocals ret :: tables_1) room_1) (lw_P b xs) (fun _ _ _ _ _ => True) lw_Q := by
  intro p e ha hc hk s m args below hf happ hP hK
  obtain ⟨n, o, h1, h2, h3, h4⟩ := lw_met l hflags b s.heap.size xs p e ha hc hk s m args below hf happ ⟨hP, rfl⟩ hK
  refine ⟨n, o, h1, h2, h3, ?_⟩
  rcases h4 with ⟨e1, L, ⟨hv, hW, hS⟩, hL⟩ | ⟨q, -, E, ce, L, hz, -⟩
  · exact ⟨e1, hv, hW, State.sameButNew.drop_fresh (L := []) (J := L) hS hL⟩
  · exact hz.elim
theorem lw_pre_spec {args : Array Value} {s : State} (h : (Jvm.Cond.and given_1 narrow_1).before args s = true) (hr : rest_1_c.before args s = true) : ∃ (b : Addr) (xs : List Int32), lw_P b xs args s := by
  have hs := flat_of_before _ h
  have hq := flat_of_before _ hr
  have hc : (Cond.count 1).before args s = true := hs _ (by decide +kernel)
  have harr : (Cond.arrayOf (.arg 0) .int).before args s = true := hs _ (by decide +kernel)
  have hle : (Cond.le (.length (.arg 0)) (.int 260)).before args s = true := hs _ (by decide +kernel)
  have hlen : (Cond.isInt (.length (.arg 0))).before args s = true := hq _ (by decide +kernel)
  have hall : (Cond.all (.arg 0) (.isInt (.elem (.arg 0) (.index 0)))).before args s = true := hq _ (by decide +kernel)
  obtain ⟨b, xs, hb, hx⟩ := State.ints_of_pre rfl harr hlen hall
  have hsm : xs.length < 2 ^ 31 := hx.choose_spec.2.2.2
  have hev : (Term.length (.arg 0)).eval args s none [] s = some (.int xs.length.toInt32) := hx.length_eval hb
  have hv := Cond.le_ints hev (show (Term.int 260).eval args s none [] s = some (.int 260) from rfl)
  have hd : xs.length.toInt32 ≤ 260 := by
    simpa [Cond.before, Cond.holds, hv] using hle
  have hN : xs.length ≤ 260 := (Int32.ofNat_le_ofNat hsm (by decide)).mp (show Int32.ofNat xs.length ≤ Int32.ofNat 260 from hd)
  exact ⟨b, xs, Cond.one_arg hc (show args[0]? = some (.ref b) from hb), hx, hN, h⟩
theorem lw_comes (l : Launch) (hflags : l.flags = flags0) : Comes l x (Jvm.Cond.code x code maxLocals ret :: tables_1) room_1 (fun tb e args s => Calls_1 tb e args s ∧ rest_1 tb e args s ∧ Pre_1 tb e args s)
    (fun _ _ args s o t => lw_Q args s o t) := by
  intro p e ha hc hk s m args below hf hfit hheap happ hpre
  obtain ⟨b, xs, hP⟩ := lw_pre_spec hpre.2.2 hpre.2.1
  obtain ⟨k, o, h1, h2, h3, hQ⟩ := lw_walk l hflags b xs p e ha hc hk s m args below hf ((Spec.applies_iff_loose hf).mp happ).1 hP trivial
  exact ⟨k, o, h1, h2, h3, hQ⟩
theorem lw_frame {s t : State} {o : Outcome} {args : Array Value} (h : Framed s o t [] 600074 7301550) :
    Framed s o t (fieldLocs frame_1_writes args s ++ arrayLocs frame_1_arrays args s ++ staticLocs frame_1_statics s) 600074 7301550 := h
theorem lw_limb (L : Cond) (hL : ∀ (args : Array Value) (s t : State), L.after args s (.returned (some (.int 1))) t = true) :
    ArmFor flags0 classFile x code maxLocals ret World_1 tables_1 room_1 Calls_1 rest_1 Pre_1
      (fun tb e a s o t => postC L tb e a s o t ∧ Framed s o t (fieldLocs frame_1_writes a s ++ arrayLocs frame_1_arrays a s ++ staticLocs frame_1_statics s) 600074 7301550) := by
  intro l hflags _ _ p e ha hc hk s m args below hf hfit hheap happ hpre
  obtain ⟨k, o, h1, h2, h3, rfl, hF⟩ := lw_comes l hflags p e ha hc hk s m args below hf hfit hheap happ hpre
  exact ⟨k, _, h1, h2, h3, hL args s _, lw_frame hF⟩
theorem i_vc : Claimed_1_1 ∧ Claimed_1_2 := ⟨lw_limb limb_1_1 (fun args s t => by simp [limb_1_1, Cond.after, Cond.holds, Cond.value]), lw_limb limb_1_2 (fun args s t => Cond.after_iff.mpr (by
  first | (rw [show limb_1_2 = Cond.eq .result (.int 1) from rfl, Cond.eq_ints (x := 1) (y := 1) rfl rfl]; simp; done) | (simp [limb_1_2, Cond.value, Term.eval]; done)))⟩

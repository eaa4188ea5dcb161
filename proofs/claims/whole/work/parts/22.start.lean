/-! ===== THE START: what the Statement gives ===== -/
theorem st_arr {s : State} {args : Array Value} {ty : FieldType} (h : (Cond.arrayClass ty).before args s = true) : ∃ cA : ClassId, ArrOfT s cA ty ∧ s.vm.findClass ("[" ++ ty.toString) = some cA := by
  obtain ⟨c, k, comp, h1, h2, h3⟩ := Cond.arrayClass_spec h
  exact ⟨c, fun n z => ⟨fun k h => (by cases h), k, h2, comp, h3⟩, h1⟩
theorem st_K {s : State} {args : Array Value} (hts : ∀ w ∈ am_T, w.before args s = true) : ∃ (D : va_G) (tc : Nat → ClassId), va_K D classes (am_tys tc) s := by
  obtain ⟨c0, i0, k0⟩ := u_known (n := 3) hts us_SE (hts (.instantiable R_SE 3) (ax_mem (by decide +kernel)))
  obtain ⟨c1, i1, k1⟩ := u_known (n := 12) hts us_Mo (hts (.instantiable R_Mo 12) (ax_mem (by decide +kernel)))
  obtain ⟨c2, i2, k2⟩ := u_known (n := 8) hts us_St (hts (.instantiable R_St 8) (ax_mem (by decide +kernel)))
  obtain ⟨c3, i3, k3⟩ := u_known (n := 11) hts us_Ex (hts (.instantiable R_Ex 11) (ax_mem (by decide +kernel)))
  obtain ⟨c4, i4, k4⟩ := u_known (n := 8) hts us_Dr (hts (.instantiable R_Dr 8) (ax_mem (by decide +kernel)))
  obtain ⟨c5, i5, k5⟩ := u_known (n := 34) hts us_RM (hts (.instantiable R_RM 34) (ax_mem (by decide +kernel)))
  obtain ⟨t0, a0, b0⟩ := st_arr (hts _ wa_int)
  obtain ⟨t1, a1, b1⟩ := st_arr (hts _ wa_long)
  obtain ⟨t2, a2, b2⟩ := st_arr (hts _ wa_boolean)
  refine ⟨(fun k => match k with | 0 => c0 | 1 => c1 | 2 => c2 | 3 => c3 | 4 => c4 | _ => c5, fun k => match k with | 0 => i0 | 1 => i1 | 2 => i2 | 3 => i3 | 4 => i4 | _ => i5), fun k => match k with | 0 => t0 | 1 => t1 | _ => t2, ?_, ?_⟩
  · intro k q hq
    match k, hq with
    | 0, hq => cases hq; exact k0
    | 1, hq => cases hq; exact k1
    | 2, hq => cases hq; exact k2
    | 3, hq => cases hq; exact k3
    | 4, hq => cases hq; exact k4
    | 5, hq => cases hq; exact k5
    | k + 6, hq => simp [classes] at hq
  · intro k q hq
    match k, hq with
    | 0, hq => cases hq; exact ⟨a0, b0⟩
    | 1, hq => cases hq; exact ⟨a1, b1⟩
    | 2, hq => cases hq; exact ⟨a2, b2⟩
    | k + 3, hq => simp [am_tys] at hq
theorem st_e24 {P : Nat → Prop} (h : ∀ j ∈ List.range 24, P j) : ∀ j, j < 24 → P j := fun j hj => h j (List.mem_range.mpr hj)
theorem st_el : ((List.range 24).all fun j => decide ((Cond.eq (.elem (.static "StateExplore" "NUMBERINGS" "[I") (.int (Int32.ofNat j))) (.int (am_num j))) ∈ flatC (Jvm.Cond.and given_1 narrow_1))) = true := by decide +kernel
theorem st_NM : ∀ q ∈ am_NM, (Cond.methodLinkNest q.1 q.2.1 q.2.2.1 q.2.2.2) ∈ lw_tbl := by decide +kernel
theorem st_NF : ∀ q ∈ am_NF, (Cond.fieldLinkNest q.1 q.2.1 q.2.2.1 q.2.2.2.1 q.2.2.2.2.1 q.2.2.2.2.2) ∈ lw_tbl := by decide +kernel
theorem st_F {s : State} {args : Array Value} {A : Nat → Prop} (hts : ∀ w ∈ lw_tbl, w.before args s = true) (hgv : (Jvm.Cond.and given_1 narrow_1).before args s = true) (hA : ∀ a : Nat, a < s.heap.size → ¬ A a) : am_F A s := by
  have hs := flat_of_before _ hgv
  refine ⟨fun q hq => va_Nw.of rfl (hts _ (st_NM q hq)), fun q hq => va_Nw.of rfl (hts _ (st_NF q hq)), ?_, trivial⟩
  obtain ⟨t, ht, hT⟩ := va_Tof (tm := .static "StateExplore" "NUMBERINGS" "[I") (ty := .int) (N := 24) (f := fun j => .int (am_num j)) (A := A) (by decide) (hs (.arrayOf (.static "StateExplore" "NUMBERINGS" "[I") .int) (by decide +kernel)) (va_eqt (hs (.eq (.length (.static "StateExplore" "NUMBERINGS" "[I")) (.int 24)) (by decide +kernel)))
    (fun j hj => va_eqt (hs _ (of_decide_eq_true (List.all_eq_true.mp st_el j (List.mem_range.mpr hj))))) hA
  exact ⟨t, va_Zref (hts (.laysStatic "StateExplore" "NUMBERINGS" "[I") (by decide +kernel)) (hts (.initialized "StateExplore") (by decide +kernel)) ht hA, hT⟩
theorem st_XT : ∀ w ∈ ax_XT, w ∈ lw_tbl := by decide +kernel
theorem st_z {s : State} {args : Array Value} {A : Nat → Prop} {n d : String} (h1 : (Cond.laysStatic ax_tN n d).before args s = true) (h2 : (Cond.isRef (.static ax_tN n d)).before args s = true) (hA : ∀ a : Nat, a < s.heap.size → ¬ A a) : ax_z n d A s := by
  obtain ⟨c, k, i, f, a, cell, hc, hi, hst, ha, hcell, hs, hcls, hlt, hty⟩ := Cond.laysStatic_spec h1
  cases hv : (Term.static ax_tN n d).eval args s none [] s with
  | none => simp [Cond.before, Cond.holds, Cond.value, hv] at h2
  | some v =>
    obtain ⟨hst', a', cell', ha', hcell', -, hslot⟩ := Term.static_spec hi hv
    cases ha.symm.trans ha'
    cases hcell.symm.trans hcell'
    refine ⟨c, k, i, f, a, cell, v, hc, hi, hst, ha, hcell, hs, hcls, hlt, hty, hslot, ?_, hA a (Array.getElem?_eq_some_iff.mp hcell).1⟩
    cases v <;> simp_all [Cond.before, Cond.holds, Cond.value, Value.isRef]
theorem st_s {s : State} {args : Array Value} {i : Nat} {t : String} (h : (Cond.stringRef "StateExplore" i t).before args s = true) (hc : ∃ c, s.vm.findClass "StateExplore" = some c) : ax_s i s := by
  obtain ⟨c, hc⟩ := hc
  obtain ⟨k, cf, j, a, h1, h2, h3, -, h4, -⟩ := Cond.stringRef_spec hc h
  exact ⟨c, k, cf, j, a, hc, h1, h2, h3, h4⟩
def ax_ST : List (Nat × String) := [(46, "there are eight states"), (57, "there are six kinds"), (65, "no such state"), (71, "no such kind"), (76, "there are forty rules"), (82, "no such rule"), (84, "no such whom"), (90, "a rule that goes by itself has no sender"), (95, "the rule sends four"), (117, "not 1 to 1000"), (127, "no such whole or node"), (142, "no such whole or code"), (147, "no such whole"), (163, "no such what"), (169, "no such whole on the way")]
theorem st_ST : ∀ q ∈ ax_ST, Cond.stringRef "StateExplore" q.1 q.2 ∈ lw_tbl := by decide +kernel
theorem st_SI : ∀ i ∈ ax_SI, ∃ q ∈ ax_ST, q.1 = i := by decide +kernel
theorem st_e {s : State} {args : Array Value} {A : Nat → Prop} (hts : ∀ w ∈ lw_tbl, w.before args s = true) (hgv : (Jvm.Cond.and given_1 narrow_1).before args s = true) (hA : ∀ a : Nat, a < s.heap.size → ¬ A a) : am_e A s := by
  have hs := flat_of_before _ hgv
  have hc : ∃ c, s.vm.findClass "StateExplore" = some c := by
    obtain ⟨c, k, i, f, a, cell, h1, -⟩ := Cond.laysStatic_spec (hts (.laysStatic "StateExplore" "NUMBERINGS" "[I") (by decide +kernel))
    exact ⟨c, h1⟩
  refine ⟨fun w hw => ?_, st_z (hts (.laysStatic ax_tN "UNASSIGNED_STACK" ax_sD) (by decide +kernel)) (hs (.isRef (.static ax_tN "UNASSIGNED_STACK" ax_sD)) (by decide +kernel)) hA, st_z (hts (.laysStatic ax_tN "SUPPRESSED_SENTINEL" ax_lD) (by decide +kernel)) (hs (.isRef (.static ax_tN "SUPPRESSED_SENTINEL" ax_lD)) (by decide +kernel)) hA, fun i hi => ?_, fun c1 c2 q1 q2 => ?_⟩
  · have := Cond.tabsOnly_warm (args' := #[]) (T := s) (State.WarmedH.refl s) w (ax_XT_tabs w hw) (hts w (st_XT w hw))
    rwa [State.setVm_self] at this
  · obtain ⟨q, hq, rfl⟩ := st_SI i hi
    exact st_s (hts _ (st_ST q hq)) hc
  · have h9 : (Cond.not (.castable ax_U ax_I)).before args s = true := hs _ (by decide +kernel)
    cases h : s.vm.assignable c1 c2 with
    | false => rfl
    | true =>
      exfalso
      simp [Cond.before, Cond.holds, Cond.value, q1, q2, h] at h9
theorem st_flags {l : Launch} (h : l.flags = flags0) : l.stackTraces = false := by
  unfold Launch.stackTraces
  rw [h]
  decide +kernel
/-! THE CLAIM OUT OF ONE WALK OF THE LAW'S BODY. Your part is whole_start (and what it stands on); all else here is the same for every law, but numbers. -/
def R_law : String := "StateExploreLaw"
def lw_P (b : Addr) (xs : List Int32) (args : Array Value) (s : State) : Prop := args = #[.ref b] ∧ s.IntsAt b xs ∧ xs.length ≤ 2050 ∧ (Jvm.Cond.and given_1 narrow_1).before args s = true
def lw_Q (_ : Array Value) (s : State) (o : Outcome) (t : State) : Prop := o = .returned (some (.int 1)) ∧ Framed s o t [] 601024 7293000
def lw_Z (below : List Frame) (a : Array Value) (s : State) : State → Prop := fun t => ∃ o, t.status = .running ∧ Ended t below o ∧ lw_Q a s o t
/-- the law's own end, with 1 on the stack, nothing written that was there before, its room as the claim has it -/
theorem lw_ret {p : Program} {l : Launch} {e : Env} {s : State} {m : MethodId} {below : List Frame} {meth : Method} {c : Code} {b : Nat} (hx : p.tables.exec = Jvm.exec) (hb : c.code = code) (hr : meth.sig.returnType = ret) (hlocks : meth.locks = false) {pc : Nat} {H : Heap} {ls : Array Slot} (hdg : decode code pc = .ok (.ireturn, 1)) : W p l e room_1 s m #[Value.ref b] below meth c H [] 601024 7293000 (lw_Z below #[Value.ref b] s) (F0 m pc ls [.int 1]) := by
  intro T hT X
  obtain ⟨fs, hret, hrun, hended, hW, hframe⟩ := X.leave (v := some (.int 1)) (hlocks := hlocks) (fun h => by rw [hr] at h; cases h)
  have hmeth' : T.vm.method? m = some meth := X.method'
  refine ⟨T.setFrames fs, ?_, .returned (some (.int 1)), hrun, hended, rfl, ⟨_, rfl⟩, hW, hframe⟩
  jvm_step X.here [X.here.top, hx, hb, hdg, hmeth', hr, ret, narrow_b1]
  (try refine ⟨rfl, ?_⟩); (try refine ⟨rfl, ?_⟩)
  first | (intro acts; rw [hret _ acts rfl rfl rfl]) | rw [hret _ _ rfl rfl rfl]
  exact Steps.refl _
/-- what holds at the law's entry: the machine, the code, the tables' words (any of lw_tbl by 'hts w (by decide +kernel)'), the script of L ints xs at the cell b, what the Statement gives of the start (any of its parts by flat_of_before) -/
def lw_At (p : Program) (s : State) (m : MethodId) (meth : Method) (c : Code) (b L : Nat) (xs : Nat → Int32) : Prop :=
  p.tables.exec = Jvm.exec ∧ c.code = code ∧ meth.sig.returnType = ret ∧ c.maxLocals = 7 ∧ s.vm.findClass R_law = some m.cls ∧ (∀ w ∈ lw_tbl, w.before #[Value.ref b] s = true) ∧ va_X b L xs s s.heap ∧ b < s.heap.size ∧ meth.locks = false ∧ (Jvm.Cond.and given_1 narrow_1).before #[Value.ref b] s = true
set_option maxRecDepth 20000 in
/-- from the entry, for every script of at most 2050 ints, the law comes to its end with true -/
theorem whole_start {p : Program} {e : Env} {s : State} {m : MethodId} {below : List Frame} {meth : Method} {c : Code} (l : Launch) (htr : l.stackTraces = false) {b L : Nat} {xs : Nat → Int32} (hL : L ≤ 2050) (C0 : lw_At p s m meth c b L xs) : W p l e room_1 s m #[Value.ref b] below meth c s.heap [] 0 0 (lw_Z below #[Value.ref b] s) (entryFrame m ([Value.ref b] : List Value).toArray 7) := by
  obtain ⟨hx, hb, hr, hml, hown, hts, hX, hbl, hlocks, hgv⟩ := C0
  have hT : ∀ w ∈ am_T, w.before #[Value.ref b] s = true := fun w hw => hts w (List.mem_filter.mp hw).1
  obtain ⟨D, tc, hK⟩ := st_K hT
  have hA : ∀ a : Nat, a < s.heap.size → ¬ (fun q : Nat => s.heap.size ≤ q) a := fun a h => Nat.not_le.mpr h
  have hF : am_F (fun q : Nat => s.heap.size ≤ q) s := st_F hts hgv hA
  have hE0 : am_e (fun q : Nat => s.heap.size ≤ q) s := st_e hts hgv hA
  have K : am_ok (p, l, e, room_1, s, m, #[Value.ref b], below, meth, c, lw_Z below #[Value.ref b] s, D, tc, (fun q : Nat => s.heap.size ≤ q), (fun ad : Nat → Nat => ad 1000 = b), 601024, 7293000, 7) code R_La 7 10 :=
    ⟨hx, hb, ⟨hml, rfl⟩, hown, hT, hK, Nat.le_refl _, Nat.le_refl _, fun _ h => h, hlocks, hF, by decide, by decide, htr⟩
  have hE : am_ex (p, l, e, room_1, s, m, #[Value.ref b], below, meth, c, lw_Z below #[Value.ref b] s, D, tc, (fun q : Nat => s.heap.size ≤ q), (fun ad : Nat → Nat => ad 1000 = b), 601024, 7293000, 7) := hE0
  have hsc : am_sc (p, l, e, room_1, s, m, #[Value.ref b], below, meth, c, lw_Z below #[Value.ref b] s, D, tc, (fun q : Nat => s.heap.size ≤ q), (fun ad : Nat → Nat => ad 1000 = b), 601024, 7293000, 7) b L xs := ⟨fun _ h => h, hX, hbl, hA b hbl⟩
  have hal : am_alS (p, l, e, room_1, s, m, #[Value.ref b], below, meth, c, lw_Z below #[Value.ref b] s, D, tc, (fun q : Nat => s.heap.size ≤ q), (fun ad : Nat → Nat => ad 1000 = b), 601024, 7293000, 7) 0 := fun _ _ h1 _ h2 => h2.trans h1
  have hret : ∀ lv w bc bs, AW (p, l, e, room_1, s, m, #[Value.ref b], below, meth, c, lw_Z below #[Value.ref b] s, D, tc, (fun q : Nat => s.heap.size ≤ q), (fun ad : Nat → Nat => ad 1000 = b), 601024, 7293000, 7) 820 lv [] w bc bs := by
    intro lv w bc bs
    refine aw_iconst K d_La_law_820 rfl (v := 1) (by decide) ?_
    intro ad H locs cells slots ls hG hP hD hS hl hc hs
    refine va_forget (fun q hq => hS.2.2 q hq) ?_
    refine W.widen (k := 601024) (n := 7293000) (by omega) (by omega) ?_
    exact lw_ret hx hb hr hlocks d_La_law_821
  rw [lg_entry_eq]
  exact lw_begin K hE hsc hal hL hret (fun _ => b) s.heap [] 0 0 _ rfl (fun k q h => by cases h) ⟨fun i j p q h => (by cases h), fun _ _ h => (by cases h)⟩ va_S.rf (am_entry (fun _ => b) [aR 1000] (Nat.le_of_ble_eq_true rfl)) (by decide) (by decide)
set_option maxHeartbeats 4000000 in
theorem lw_walk (l : Launch) (htr : l.stackTraces = false) (b : Addr) (xs : List Int32) : MetFree l x (headSpec (Jvm.Cond.code x code maxLocals ret :: tables_1) room_1) (lw_P b xs) (fun _ _ _ _ _ => True) lw_Q := by
  refine MetFree.of_bodyS (code := code) (maxLocals := maxLocals) (ret := ret) (by decide) ?_ ?_
  · intro args s m h hn
    obtain ⟨meth, c, h1, h2, h3, h4, h5, h6, -, -⟩ := Cond.code_spec hn (atoms_spec (ws := Jvm.Cond.code x code maxLocals ret :: tables_1) h _ List.mem_cons_self)
    exact ⟨meth, c, h1, h2, h3, h4, h5, h6⟩
  · intro p e s m args below meth c s₁ B hml0 hP _
    obtain ⟨rfl, hx, hbd, hgv⟩ := hP
    obtain ⟨scr, harrAt, hlist, hof, hsmall⟩ := hx
    obtain ⟨hcb, hkn, -, -⟩ := State.arrayAt?_spec harrAt
    have hown : s.vm.findClass R_law = some m.cls := findClass_of_methodNamed B.named
    have hts0 : ∀ c ∈ (Jvm.Cond.code x code maxLocals ret :: tables_1), c.before #[Value.ref b] s = true := atoms_spec (ws := Jvm.Cond.code x code maxLocals ret :: tables_1) B.pre
    have hts : ∀ w ∈ lw_tbl, w.before #[Value.ref b] s = true := k2_hts_sels lw_privs (fun w hw => hts0 w (List.mem_cons_of_mem _ hw)) lw_privs_ok
    have hml : c.maxLocals = 7 := B.maxLocals_eq (hts0 _ List.mem_cons_self)
    have X₀ : Stand p l e room_1 s m #[Value.ref b] below meth c s₁ [] 0 0 := Stand.of_body B
    have hh0 : s₁.heap = s.heap := by rw [B.state]; rfl
    have hsz : scr.slots.size = xs.length := by rw [← Array.length_toList, hlist, List.length_map]
    have hval : ∀ j : Nat, j < xs.length → scr.slots[j]? = some (.int (xs.getD j 0)) := fun j hj => by
      rw [← Array.getElem?_toList, hlist]
      simp [hj]
    have hbl : b < s.heap.size := (Array.getElem?_eq_some_iff.mp hcb).1
    have hX : va_X b xs.length (fun j => xs.getD j 0) s s.heap := ⟨scr, hcb, hof, hkn, hsz, hval⟩
    have K : W p l e room_1 s m #[Value.ref b] below meth c s₁.heap [] 0 0 (lw_Z below #[Value.ref b] s) (entryFrame m ([Value.ref b] : List Value).toArray 7) := by
      rw [hh0]
      exact whole_start l htr hbd ⟨B.exec, B.bytes, B.returns, hml, hown, hts, hX, hbl, B.notSynchronized, hgv⟩
    obtain ⟨t, a1, o, b1, b2, b3⟩ := K s₁ rfl X₀
    exact ⟨t, o, a1, b1, b2, b3⟩
theorem lw_pre_spec {args : Array Value} {s : State} (h : (Jvm.Cond.and given_1 narrow_1).before args s = true) (hr : rest_1_c.before args s = true) : ∃ (b : Addr) (xs : List Int32), lw_P b xs args s := by
  have hs := flat_of_before _ h
  have hq := flat_of_before _ hr
  have hc : (Cond.count 1).before args s = true := hs _ (by decide +kernel)
  have harr : (Cond.arrayOf (.arg 0) .int).before args s = true := hs _ (by decide +kernel)
  have hle : (Cond.le (.length (.arg 0)) (.int 2050)).before args s = true := hs _ (by decide +kernel)
  have hlen : (Cond.isInt (.length (.arg 0))).before args s = true := hq _ (by decide +kernel)
  have hall : (Cond.all (.arg 0) (.isInt (.elem (.arg 0) (.index 0)))).before args s = true := hq _ (by decide +kernel)
  obtain ⟨b, xs, hb, hx⟩ := State.ints_of_pre rfl harr hlen hall
  have hsm : xs.length < 2 ^ 31 := hx.choose_spec.2.2.2
  have hev : (Term.length (.arg 0)).eval args s none [] s = some (.int xs.length.toInt32) := hx.length_eval hb
  have hv := Cond.le_ints hev (show (Term.int 2050).eval args s none [] s = some (.int 2050) from rfl)
  have hd : xs.length.toInt32 ≤ 2050 := by
    simpa [Cond.before, Cond.holds, hv] using hle
  have hN : xs.length ≤ 2050 := (Int32.ofNat_le_ofNat hsm (by decide)).mp (show Int32.ofNat xs.length ≤ Int32.ofNat 2050 from hd)
  exact ⟨b, xs, Cond.one_arg hc (show args[0]? = some (.ref b) from hb), hx, hN, h⟩
theorem lw_comes (l : Launch) (htr : l.stackTraces = false) : Comes l x (Jvm.Cond.code x code maxLocals ret :: tables_1) room_1 (fun tb e args s => Calls_1 tb e args s ∧ rest_1 tb e args s ∧ Pre_1 tb e args s)
    (fun _ _ args s o t => lw_Q args s o t) := by
  intro p e ha hc hk s m args below hf hfit hheap happ hpre
  obtain ⟨b, xs, hP⟩ := lw_pre_spec hpre.2.2 hpre.2.1
  obtain ⟨k, o, h1, h2, h3, hQ⟩ := lw_walk l htr b xs p e ha hc hk s m args below hf ((Spec.applies_iff_loose hf).mp happ).1 hP trivial
  exact ⟨k, o, h1, h2, h3, hQ⟩
theorem lw_frame {s t : State} {o : Outcome} {args : Array Value} (h : Framed s o t [] 601024 7293000) :
    Framed s o t (fieldLocs frame_1_writes args s ++ arrayLocs frame_1_arrays args s ++ staticLocs frame_1_statics s) 601024 7293000 := h
theorem lw_limb (L : Cond) (hL : ∀ (args : Array Value) (s t : State), L.after args s (.returned (some (.int 1))) t = true) :
    ArmFor flags0 classFile x code maxLocals ret World_1 tables_1 room_1 Calls_1 rest_1 Pre_1
      (fun tb e a s o t => postC L tb e a s o t ∧ Framed s o t (fieldLocs frame_1_writes a s ++ arrayLocs frame_1_arrays a s ++ staticLocs frame_1_statics s) 601024 7293000) := by
  intro l hfl _ _ p e ha hc hk s m args below hf hfit hheap happ hpre
  obtain ⟨k, o, h1, h2, h3, rfl, hF⟩ := lw_comes l (st_flags hfl) p e ha hc hk s m args below hf hfit hheap happ hpre
  exact ⟨k, _, h1, h2, h3, hL args s _, lw_frame hF⟩
theorem i_vc : Claimed_1_1 ∧ Claimed_1_2 := ⟨lw_limb limb_1_1 (fun args s t => by simp [limb_1_1, Cond.after, Cond.holds, Cond.value]), lw_limb limb_1_2 (fun args s t => Cond.after_iff.mpr (by
  first | (rw [show limb_1_2 = Cond.eq .result (.int 1) from rfl, Cond.eq_ints (x := 1) (y := 1) rfl rfl]; simp; done) | (simp [limb_1_2, Cond.value, Term.eval]; done)))⟩

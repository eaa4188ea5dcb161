/-! ===== THROWS: what stays of the start for them; 'throw new X("..")'; contracts that end in a throw ===== -/
def ax_tN : String := "java/lang/Throwable"
def ax_sD : String := "[Ljava/lang/StackTraceElement;"
def ax_lD : String := "Ljava/util/List;"
def ax_U : String := "java/lang/UnsupportedOperationException"
def ax_I : String := "java/lang/IllegalArgumentException"
def ax_O : String := "java/lang/IndexOutOfBoundsException"
def ax_up : List String := ["java/lang/RuntimeException", "java/lang/Exception"]
def ax_D (C : String) : Cond := .declares ⟨C, "<init>", "(Ljava/lang/String;)V"⟩
def ax_XT : List Cond := [ax_D "java/lang/RuntimeException", ax_D "java/lang/Exception", ax_D ax_tN, .castable ax_U ax_U, .castable ax_I ax_I, .castable ax_O ax_O]
def ax_H : List Cond := [.laysStatic ax_tN "UNASSIGNED_STACK" ax_sD, .laysStatic ax_tN "SUPPRESSED_SENTINEL" ax_lD, .isRef (.static ax_tN "UNASSIGNED_STACK" ax_sD), .isRef (.static ax_tN "SUPPRESSED_SENTINEL" ax_lD)]
def ax_SI : List Nat := [46, 57, 65, 71, 76, 82, 84, 90, 95, 117, 127, 142, 147, 163, 169]
def ax_s (idx : Nat) (U : State) : Prop := ∃ (c : ClassId) (k : Class) (cf : ClassFile) (i : Nat) (a : Addr), U.vm.findClass "StateExplore" = some c ∧ U.vm.classes[c]? = some k ∧ k.cf = some cf ∧ cf.constantPool[idx]? = some (.string i) ∧ k.resolved[idx]? = some (some (.string a))
theorem ax_s.to {idx : Nat} {s U : State} (h : ax_s idx s) (hW : s.WarmedH U.vm) : ax_s idx U := by
  obtain ⟨c, k, cf, i, a, h1, h2, h3, h4, h5⟩ := h
  obtain ⟨k', hk', he⟩ := hW.alike.2.2 _ _ h2
  refine ⟨c, k', cf, i, a, by rw [hW.alike.findClass]; exact h1, hk', by rw [he]; exact h3, h4, ?_⟩
  rcases hW.entry h2 hk' idx with h | ⟨h, -⟩
  · rw [h]; exact h5
  · rw [h5] at h; cases h
def ax_z (n d : String) (A : Nat → Prop) (U : State) : Prop := ∃ (cf : ClassId) (kf : Class) (fi : Nat) (f : Field) (a : Nat) (cell : Cell) (v : Value), U.vm.findClass ax_tN = some cf ∧ U.fieldFound? ax_tN n d = some (cf, kf, fi, f) ∧ f.isStatic = true ∧ kf.statics = some a ∧ U.heap[a]? = some cell ∧ cell.vm.isStatics = true ∧ cell.cls = cf ∧ f.slot < cell.slots.size ∧ kf.staticTypes[f.slot]? = some f.type ∧ cell.slots[f.slot]? = some v ∧ v.isRef = true ∧ ¬ A a
theorem ax_z.to {n d : String} {A B : Nat → Prop} {s U : State} (h : ax_z n d A s) (hA : ∀ q, B q → A q) (hvm : s.vm.Alike U.vm) (hq : ∀ q, q < s.heap.size → ¬ A q → U.heap[q]? = s.heap[q]?) : ax_z n d B U := by
  obtain ⟨cf, kf, fi, f, a, cell, v, h0, h1, h2, h3, h4, h5, h6, h7, h8, h9, h10, h11⟩ := h
  obtain ⟨k', hi', he⟩ := State.fieldFound?_setVm hvm h1
  exact ⟨cf, k', fi, f, a, cell, v, by rw [hvm.findClass]; exact h0, hi', h2, by rw [he]; exact h3, by rw [hq a (Array.getElem?_eq_some_iff.mp h4).1 h11]; exact h4, h5, h6, h7, by rw [he]; exact h8, h9, h10, fun z => h11 (hA a z)⟩
theorem ax_z.w1 {n d : String} {A : Nat → Prop} {U : State} (h : ax_z n d A U) (args : Array Value) : (Cond.laysStatic ax_tN n d).before args U = true := by
  obtain ⟨cf, kf, fi, f, a, cell, v, h0, h1, h2, h3, h4, h5, h6, h7, h8, h9, h10, h11⟩ := h
  simp [Cond.before, Cond.holds, Cond.value, h0, h1, h2, h3, h4, h5, h6, h7, h8]
theorem ax_z.w2 {n d : String} {A : Nat → Prop} {U : State} (h : ax_z n d A U) (args : Array Value) : (Cond.isRef (.static ax_tN n d)).before args U = true := by
  obtain ⟨cf, kf, fi, f, a, cell, v, h0, h1, h2, h3, h4, h5, h6, h7, h8, h9, h10, h11⟩ := h
  have e : (Term.static ax_tN n d).eval args U none [] U = some v := by
    simp [Term.eval, State.fieldNamed?, h1, h2, h3, h4, h5, h9]
  cases v <;> simp_all [Cond.before, Cond.holds, Cond.value, Value.isRef]
def am_e (A : Nat → Prop) (U : State) : Prop :=
  (∀ w ∈ ax_XT, w.before #[] U = true) ∧ ax_z "UNASSIGNED_STACK" ax_sD A U ∧ ax_z "SUPPRESSED_SENTINEL" ax_lD A U ∧ (∀ i ∈ ax_SI, ax_s i U) ∧ (∀ c1 c2, U.vm.findClass ax_U = some c1 → U.vm.findClass ax_I = some c2 → U.vm.assignable c1 c2 = false)
theorem ax_XT_tabs : ∀ w ∈ ax_XT, w.tabsOnly = true := by decide +kernel
theorem am_e.to {A B : Nat → Prop} {s U : State} (h : am_e A s) (hA : ∀ q, B q → A q) (hW : s.WarmedH U.vm) (hq : ∀ q, q < s.heap.size → ¬ A q → U.heap[q]? = s.heap[q]?) : am_e B U := by
  obtain ⟨h1, h2, h3, h4, h5⟩ := h
  refine ⟨fun w hw => ?_, h2.to hA hW.alike hq, h3.to hA hW.alike hq, fun i hi => (h4 i hi).to hW, fun c1 c2 q1 q2 => ?_⟩
  · have := Cond.tabsOnly_warm (args' := #[]) (T := U) hW w (ax_XT_tabs w hw) (h1 w hw)
    rwa [State.setVm_self] at this
  · rw [hW.alike.findClass] at q1 q2
    rw [hW.alike.assignable]
    exact h5 c1 c2 q1 q2
theorem am_e.blind {A : Nat → Prop} {U V : State} (h : am_e A U) (hvm : U.vm = V.vm) (hh : U.heap = V.heap) : am_e A V :=
  h.to (fun _ h => h) (by rw [← hvm]; exact State.WarmedH.refl U) (fun q _ _ => by rw [hh])
theorem am_e.wx {A : Nat → Prop} {U : State} (h : am_e A U) (args : Array Value) : ∀ w ∈ ax_XT, w.before args U = true := fun w hw => by
  have := Cond.tabsOnly_warm (args' := args) (T := U) (State.WarmedH.refl U) w (ax_XT_tabs w hw) (h.1 w hw)
  rwa [State.setVm_self] at this
theorem am_e.wh {A : Nat → Prop} {U : State} (h : am_e A U) (args : Array Value) : ∀ w ∈ ax_H, w.before args U = true := by
  obtain ⟨-, h2, h3, -, -⟩ := h
  intro w hw
  simp only [ax_H, List.mem_cons, List.not_mem_nil, or_false] at hw
  rcases hw with rfl | rfl | rfl | rfl
  · exact h2.w1 args
  · exact h3.w1 args
  · exact h2.w2 args
  · exact h3.w2 args
/-- the words of 'throw new xc("..")' at a place of the class -/
def ax_ok (own xc : String) (i1 i3 : Nat) : Prop := Cond.classLink own i1 xc ∈ am_T ∧ Cond.instantiable xc 6 ∈ am_T ∧ Cond.initialized xc ∈ am_T ∧ (∀ a ∈ Jvm.Bundle.ownAtoms own i3 xc ax_up, a ∈ am_T ∨ a ∈ ax_XT ∨ a ∈ ax_H) ∧ Jvm.Bundle.fit xc = true
section AXT
variable {p : Program} {l : Launch} {e : Env} {R : Room} {s : State} {m : MethodId} {args : Array Value} {below : List Frame} {meth : Method} {c : Code} {H : Heap} {locs : List Loc} {cells slots : Nat} {Q : State → Prop} {T : State}
/-- the walk seen from a start that has the heap of now -/
theorem ax_again (X : Stand p l e R s m args below meth c T locs cells slots) (hc : cells ≤ R.cells) (hs : slots ≤ R.slots) : Stand p l e { R with cells := R.cells - cells, slots := R.slots - slots } ({ s with heap := T.heap, slotsUsed := T.slotsUsed } : State) m args below meth c T [] 0 0 := by
  have hroom := X.room
  have hbook := X.book
  have hsz := X.heapSize
  have hus := X.used
  refine ⟨X.admits, X.cas, X.clock, X.frames, ?_, X.hears, X.method, X.code, X.here, X.tail, X.warmed, X.limits, X.bytes, ?_⟩
  · simp only [State.hasRoom, Bool.and_eq_true, decide_eq_true_eq] at hroom ⊢
    obtain ⟨⟨⟨⟨r1, r2⟩, r3⟩, r4⟩, r5⟩ := hroom
    refine ⟨⟨⟨⟨r1, r2⟩, ?_⟩, ?_⟩, hbook⟩
    · show T.heap.size + (R.cells - cells) ≤ _
      omega
    · show T.slotsUsed + (R.slots - slots) ≤ _
      omega
  · refine ⟨X.same.1, Nat.le_refl _, Nat.le_refl _, ?_, ?_, fun a c h => ⟨c, h, rfl, rfl, fun _ _ => rfl⟩⟩
    · show T.slotsUsed = T.slotsUsed + _
      have : (T.heap.toList.drop T.heap.size) = [] := by simp
      show T.slotsUsed = T.slotsUsed + ((T.heap.toList.drop T.heap.size).map (·.slots.size)).sum
      rw [this]; rfl
    · have : (T.heap.toList.drop T.heap.size) = [] := by simp
      show ((T.heap.toList.drop T.heap.size).map (·.slots.size)).sum ≤ 0
      rw [this]; exact Nat.le_refl _
theorem ax_join (X : Stand p l e R s m args below meth c T locs cells slots) {V : State} {k n : Nat} (h : ({ s with heap := T.heap, slotsUsed := T.slotsUsed } : State).sameButNew V [] k n) : s.sameButNew V locs (cells + k) (slots + n) := by
  have h2 : (T.setVm s.vm).sameButNew V [] k n := by
    obtain ⟨e1, q2, q3, q4, q5, q6⟩ := h
    refine ⟨?_, q2, q3, q4, q5, q6⟩
    have e0 := X.same.1
    rw [e0]
    exact e1.trans (congrArg (fun z : State => ({ z with heap := V.heap, slotsUsed := V.slotsUsed } : State)) (State.setFrames_setFrames ({ s with heap := T.heap, slotsUsed := T.slotsUsed } : State) (T.setVm s.vm).frames V.frames).symm)
  have := X.same.trans h2
  rw [List.append_nil] at this
  exact this
theorem ax_ldc {cc : ByteArray} {pc idx : Nat} {ls : Array Slot} {st : List Value} (hexec : p.tables.exec = Jvm.exec) (hb : c.code = cc) (hS : ax_s idx s) (hown : s.vm.findClass "StateExplore" = some m.cls) (hdg : decode cc pc = .ok (.ldc idx, 2))
    (kk : ∀ a : Addr, W p l e R s m args below meth c H locs cells slots Q (F0 m (pc + 2) ls (.ref a :: st))) : W p l e R s m args below meth c H locs cells slots Q (F0 m pc ls st) := by
  intro T hT X
  obtain ⟨cX, k, cf, i, a, h1, h2, h3, h4, h5⟩ := hS.to X.warmed
  have hc : cX = m.cls := by
    rw [X.warmed.alike.findClass, hown] at h1
    exact (Option.some.inj h1).symm
  subst hc
  obtain ⟨t, a1, b1⟩ := kk a T hT X
  refine ⟨t, ?_, b1⟩
  subst hb
  jvm_step X.here [hexec, hdg, ldc.wp_string (e := e) (s := T) (f := F0 m pc ls st) X.here.top h2 h3 h4 h5]
  exact a1
end AXT
theorem ax_same {s' T U : State} {k n : Nat} (hh : s'.heap = T.heap) (h : s'.sameButNew ({ U with vm := s'.vm } : State) [] k n) : ∀ q, q < T.heap.size → U.heap[q]? = T.heap[q]? := by
  intro q hq
  rw [← hh] at hq ⊢
  have hc : s'.heap[q]? = some (s'.heap[q]) := Array.getElem?_eq_getElem hq
  obtain ⟨c', h1, h2, h3, h4⟩ := h.2.2.2.2.2 q _ hc
  have h1' : U.heap[q]? = some c' := h1
  rw [h1', hc, h2]
  have : c'.slots = (s'.heap[q]).slots := by
    apply Array.ext_getElem?
    intro i
    exact h4 i (fun h => by cases h)
  rw [this]
def MQT (below : List Frame) (Qc : Array Value → State → Outcome → State → Prop) (a : Array Value) (s : State) (mc ms : Nat) (free : Addr → Prop) : State → Prop := fun t =>
  ∃ o, t.status = .running ∧ Ended t below o ∧ Qc a s o t ∧ ∃ L, ax_FE s o t L mc ms ∧ ∀ q ∈ L, free q.base
def am_QT (xc : String) (D : va_G) (tc : Nat → ClassId) (G : (Nat → Nat) → Prop) (A : Nat → Prop) (post : List am_C → Prop) : Array Value → State → Outcome → State → Prop := fun _ st oc t => (∃ (x : Addr) (ce : Cell) (ad : Nat → Nat) (w : List am_C), oc = .threw x ∧ t.heap[x]? = some ce ∧ t.vm.findClass xc = some ce.cls ∧ ce.vm.isStatics = false ∧ t.vm.assignable ce.cls ce.cls = true ∧ G ad ∧ post w ∧ va_P D classes (am_w ad tc w) t.heap ∧ va_K D classes (am_tys tc) t ∧ va_D A (am_w ad tc w)) ∧ va_F A st t
/-- the method may end in a throw of xc -/
def am_rx (X : am_X) (xc : String) (post : List am_C → Prop) : Prop := match X with
  | (p, l, e, R, s, m, args, below, meth, c, Q, D, tc, A, G, mc, ms, nL) => am_e A s ∧ c.exceptionTable.toList = [] ∧ ∀ t : State, MQT below (am_QT xc D tc G A post) args s mc ms A t → Q t
set_option maxHeartbeats 1000000 in
theorem aw_throw {X : am_X} {cc : ByteArray} {nl dd pc bc bs i1 i2 i3 : Nat} {lv : List (Option am_V)} {w : List am_C} {xc : String} {post : List am_C → Prop} (K : am_ok X cc "StateExplore" nl dd) (hx : am_rx X xc post) (hok : ax_ok "StateExplore" xc i1 i3) (hi2 : i2 ∈ ax_SI) (hdd : 6 ≤ dd) (hc1 : 1 ≤ bc) (hc2 : 6 ≤ bs)
    (d0 : decode cc pc = .ok (.new i1, 3)) (d1 : decode cc (pc + 3) = .ok (.dup, 1)) (d2 : decode cc (pc + 3 + 1) = .ok (.ldc i2, 2)) (d3 : decode cc (pc + 3 + 1 + 2) = .ok (.invokespecial i3, 3)) (d4 : decode cc (pc + 3 + 1 + 2 + 3) = .ok (.athrow, 1)) (h : post w) : AW X pc lv [] w bc bs := by
  obtain ⟨p, l, e, R, s, m, args, below, meth, c, Q, D, tc, A, G, mc, ms, nL⟩ := X
  obtain ⟨hx0, hb, ⟨hml, rfl⟩, hown, hts, hK, hmc, hms, hA, hlk, hF, hfr, hlo, htr⟩ := K
  obtain ⟨hE, hnh, hQ⟩ := hx
  obtain ⟨k1, k2, k3, k4, k5⟩ := hok
  intro ad H locs cells slots ls hG hP hD hS hl hc hs T hT X
  subst hT
  have X' := ax_again X (by omega) (by omega)
  have htr' : e.platform.stackTraces = false := by rw [X.admits.platform]; exact htr
  obtain ⟨s', hs'⟩ : ∃ s' : State, s' = ({ s with heap := T.heap, slotsUsed := T.slotsUsed } : State) := ⟨_, rfl⟩
  have hvm : s'.vm = s.vm := by rw [hs']
  have hhp : s'.heap = T.heap := by rw [hs']
  have hW0 : s.WarmedH s'.vm := by rw [hvm]; exact State.WarmedH.refl s
  have hE' : am_e A s' := hE.to (fun _ h => h) hW0 (fun q h1 h2 => by rw [hhp]; exact hS.2.1 q h1 h2)
  have hts' : ∀ w ∈ am_T, w.before args s' = true := fun w hw => word_at hW0 (am_T_good hw) (hts w hw)
  have hown' : s'.vm.findClass "StateExplore" = some m.cls := by rw [hvm]; exact hown
  rw [← hs'] at X'
  have key : W p l e { R with cells := R.cells - cells, slots := R.slots - slots } s' m args below meth c T.heap [] 0 0 Q (F0 m pc ls []) := by
    refine W.newc (n := 6) hx0 hb hown' (hts' _ k1) (hts' _ k2) (hts' _ k3) rfl d0 (by show 0 + 1 ≤ R.cells - cells; omega) (by show 0 + 6 ≤ R.slots - slots; omega) (fun cC kC h1 h2 h3 h4 => ?_)
    refine lv_dup hx0 hb d1 rfl ?_
    refine ax_ldc hx0 hb (hE'.2.2.2.1 _ hi2) hown' d2 (fun sa => ?_)
    intro T2 hT2 X2
    have hlt : T2.heap[T.heap.size]? = some (freshCell cC kC) := by rw [hT2]; simp
    obtain ⟨U, hsteps, hrun, hend, hW, hsame, ce, hce, KC⟩ := X2.ctorThrowS hx0 htr' (own := "StateExplore") (cls := xc) (names := ax_up) (ic := i3) hown' k5 (by decide +kernel)
      (fun a ha => by
        rcases k4 a ha with h | h | h
        · exact hts' a h
        · exact hE'.wx args a h
        · exact hE'.wh args a h) (fun x hx => by cases hx) h1 h2 hlt (by rw [hhp]; exact Nat.le_refl _) (msg := .ref sa) rfl (g := F0 m (pc + 3 + 1 + 2) ls [.ref sa, .ref T.heap.size, .ref T.heap.size]) rfl (by rw [hml]; exact hl.1) rfl rfl (rest := []) rfl (by rw [hb]; exact d3) (by rw [hb]; exact d4) (by rw [hnh]; intro x hx; cases hx)
      (by show 2 + 3 < R.frames; omega) (by show 2 * 0 + 1 + (13 * (2 + 1) + 42) ≤ R.locals; omega) hlk
    refine ⟨U, hsteps, hQ U ⟨.threw T.heap.size, hrun, hend, ⟨⟨T.heap.size, ce, ad, w, rfl, hce, ?_, ?_, ?_, hG, h, ?_, ?_, hD⟩, ?_⟩, locs, ⟨⟨_, rfl⟩, ?_, ?_⟩, hS.2.2⟩⟩
    · rw [hW.alike.findClass]; exact KC.cls
    · rw [KC.vm]; rfl
    · rw [hW.alike.assignable]; exact KC.self
    · intro k q hq
      have hv := hP k q hq
      have hlt2 : q.1 < T.heap.size := hv.lt
      refine hv.kept ?_
      exact ax_same hhp hsame q.1 hlt2
    · exact va_K.moved (State.WarmedH.trans hW0 hW).alike hK
    · refine ⟨?_, fun q h1 h2 => ?_⟩
      · have := hsame.2.1
        rw [hhp] at this
        exact Nat.le_trans hS.1 this
      · rw [ax_same hhp hsame q (Nat.lt_of_lt_of_le h1 hS.1)]
        exact hS.2.1 q h1 h2
    · exact State.WarmedH.trans hW0 hW
    · have h9 : ({ s with heap := T.heap, slotsUsed := T.slotsUsed } : State).sameButNew ({ U with vm := s'.vm } : State) [] (0 + 1) (0 + 6) := by rw [← hs']; exact hsame
      rw [hvm] at h9
      exact (ax_join X h9).weaken (fun x hx _ => hx) (by omega) (by omega)
  exact key T rfl X'

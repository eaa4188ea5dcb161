/-! ===== THROWS, of one's own: how a body ends that throws; a call that throws; the way to the handler ===== -/
/-- a body's end by a throw: what came, what was written, how much was made -/
def ax_FE (u : State) (oc : Outcome) (t : State) (L : List Loc) (k n : Nat) : Prop := (∃ x, oc = .threw x) ∧ u.WarmedH t.vm ∧ u.sameButNew ({ t with vm := u.vm } : State) L k n
section AX0
variable {p : Program} {l : Launch} {e : Env} {R : Room} {s : State} {m : MethodId} {args : Array Value} {below : List Frame} {meth : Method} {c : Code} {T U : State} {locs : List Loc} {cells slots : Nat}
/-- the machine's search for a handler, over one entry that fits -/
theorem ax_take {Q : Handler → Pre} {E : CtlPost} {d : Bool} {acts : List Action} {f : JFrame} {a : Addr} {x : ExceptionTableEntry} {t : List ExceptionTableEntry} {c : ClassId} {cell : Cell} (hx : covers x f.pc = true) (h0 : x.catchType ≠ 0)
    (hl : s.vm.ClassLinks e.platform f.method.cls x.catchType c) (hcell : s.heap[a]? = some cell) (hobj : ∀ k, cell.vm ≠ .statics k) (hk : ∃ k, s.vm.classes[cell.cls]? = some k) (hc : ∃ k, s.vm.classes[c]? = some k) (hfit : s.vm.assignable cell.cls c = true) :
    wp (findHandler.go f a (x :: t)) Q E e d acts s ↔ Q (.found x.handlerPc) d acts (s.setVm (s.vm.noted f.method.cls x.catchType (.cls c))) := by
  have hcov := hx
  simp only [covers] at hcov
  have hal : s.vm.Alike (s.vm.noted f.method.cls x.catchType (.cls c)) := (Vm.Alike.refl s.vm).noted _ _ _
  obtain ⟨r1, r2⟩ := (resolveClass_links e.toSetting hl).op (op := VmOp.resolveClass f.method.cls x.catchType) rfl
  obtain ⟨ka, hka⟩ := hk
  obtain ⟨kb, hkb⟩ := hc
  obtain ⟨ka', hka', -⟩ := hal.2.2 _ _ hka
  obtain ⟨kb', hkb', -⟩ := hal.2.2 _ _ hkb
  have hf9 : (s.vm.noted f.method.cls x.catchType (.cls c)).assignable cell.cls c = true := (hal.assignable _ _).trans hfit
  simp [findHandler.go, hcov, h0, r1, r2, hcell, hobj, hka', hkb', hf9, VmOp.dirties, VmOp.acts]
/-- a throw that is caught in the frame on top: the machine goes to the handler, the tables as the search leaves them -/
theorem ax_land (X : Stand p l e R s m args below meth c T locs cells slots) (a : Addr) {g : JFrame} (hg : g.method = m) {pc : Nat} {vm' : Vm} {target : State}
    (hf : ∀ (Q : Handler → Pre) (E : CtlPost) (d : Bool) (acts : List Action), wp (findHandler g a) Q E e d acts ((T.setTop g).pushFrame (.throwing a)) ↔ Q (.found pc) d acts (((T.setTop g).pushFrame (.throwing a)).setVm vm'))
    (hs : Steps p.tables e below ((T.setVm vm').setTop { g with pc := pc, stack := [.ref a] }) target) : Steps p.tables e below ((T.setTop g).pushFrame (.throwing a)) target := by
  subst hg
  have hA := X.here
  obtain ⟨g0, h0⟩ := Option.isSome_iff_exists.mp hA.top
  obtain ⟨fs, hfs⟩ := State.topJava?_eq_some.mp h0
  obtain ⟨hgo, hwi⟩ := hA.throwing a
  have hone : (stepThrowing e ((T.setTop g).pushFrame (.throwing a)) a (.java g :: T.frames.tail)).1 = (((T.setTop g).pushFrame (.throwing a)).setVm vm').setFrames (.java { g with pc := pc, stack := [.ref a] } :: T.frames.tail) := by
    simp only [stepThrowing, searchFrame, vmDo]
    generalize hr : Sem.go _ e false [] ((T.setTop g).pushFrame (.throwing a)) = res
    obtain ⟨as, rfl, -⟩ := Sem.eq_ok_of hr (a := Handler.found pc) (s' := ((T.setTop g).pushFrame (.throwing a)).setVm vm') (acts' := []) (by simp [hf _ _ _ _])
    rfl
  refine Steps.head hgo hwi ?_
  rw [stepThread_throwing (frames_entered hA.top _), hone]
  have e1 : (((T.setTop g).pushFrame (.throwing a)).setVm vm').setFrames (.java { g with pc := pc, stack := [.ref a] } :: T.frames.tail) = (T.setVm vm').setTop { g with pc := pc, stack := [.ref a] } := by
    have hfs' : (T.setVm vm').frames = .java g0 :: fs := hfs
    rw [State.setTop_of_frames _ hfs', State.pushFrame, State.setTop_of_frames _ hfs, State.setFrames_setFrames, hfs]
    show ((T.setFrames _).setVm vm').setFrames _ = _
    rw [show ∀ F : List Frame, (T.setFrames F).setVm vm' = (T.setVm vm').setFrames F from fun _ => rfl, State.setFrames_setFrames]
    rfl
  rw [e1]
  exact hs
/-- the first entry of the method's table covers the place, and its class fits -/
theorem ax_first (X : Stand p l e R s m args below meth c T locs cells slots) (a : Addr) {g : JFrame} (hg : g.method = m) {own n1 : String} (hown : s.vm.findClass own = some m.cls) {x1 : ExceptionTableEntry} {rest : List ExceptionTableEntry} (hsplit : c.exceptionTable.toList = x1 :: rest)
    (hx1 : covers x1 g.pc = true) (h01 : x1.catchType ≠ 0) (hl1 : (Cond.classLink own x1.catchType n1).before args s = true) {c1 : ClassId} {cell : Cell} (hc1 : s.vm.findClass n1 = some c1)
    (hcell : T.heap[a]? = some cell) (hobj : cell.vm.isStatics = false) (hfit : s.vm.assignable cell.cls c1 = true) :
    ∃ vm', Stand p l e R s m args below meth c (T.setVm vm') locs cells slots ∧
      ∀ target, Steps p.tables e below ((T.setVm vm').setTop { g with pc := x1.handlerPc, stack := [.ref a] }) target → Steps p.tables e below ((T.setTop g).pushFrame (.throwing a)) target := by
  have hpl : e.platform.magicAccessors = ({} : Platform).magicAccessors := by rw [X.admits.platform]
  obtain ⟨c1', hc1', hcl1⟩ := Cond.classLink_spec hown hl1 e.platform hpl
  cases hc1.symm.trans hc1'
  obtain ⟨d1, _, _, kt1, hd1, _, _, _, _, hkt1, _, ho1⟩ := hcl1.here
  have hal := X.warmed.alike
  have hW1 : s.WarmedH (T.vm.noted m.cls x1.catchType (.cls c1)) := X.warmed.noted hd1 ho1 (State.rightAt_cls hcl1)
  obtain ⟨kt1', hkt1', -⟩ := hal.2.2 _ _ hkt1
  have hfit' : T.vm.assignable cell.cls c1 = true := (hal.assignable _ _).trans hfit
  have hkc : ∃ k, T.vm.classes[cell.cls]? = some k := Vm.classAt_of_assignable hfit' ⟨kt1', hkt1'⟩
  refine ⟨_, X.noted hW1, fun target hrest => ?_⟩
  subst hg
  refine ax_land X a rfl (vm' := T.vm.noted g.method.cls x1.catchType (.cls c1)) ?_ hrest
  intro Q E d acts
  rw [Jvm.W.findHandler_eq (s := (T.setTop g).pushFrame (.throwing a)) (meth := meth) (code := c) X.method' X.code, hsplit]
  exact ax_take (s := (T.setTop g).pushFrame (.throwing a)) hx1 h01 (X.warmed.classLinks hcl1) hcell (VmData.ne_statics_of hobj) hkc ⟨kt1', hkt1'⟩ hfit'
/-- a call, by a contract that ends in a throw: the caller stands, with the throw on top of its frame -/
theorem ax_thrown {y : MethodName} {S : Spec} {P : Array Value → State → Prop} {Q : Array Value → State → Outcome → State → Prop} {bytes : ByteArray} {maxL W len mc ms : Nat} {ret : Option FieldType} {free : Addr → Prop} (hM : MetFree l y S P (fun _ _ _ _ _ => True) (fun a st o t => Q a st o t ∧ ∃ L, ax_FE st o t L mc ms ∧ ∀ q ∈ L, free q.base))
    (X : Stand p l e R s m args below meth c U locs cells slots) {g : JFrame} {ig : Instr} {mk : MethodId} {a : Array Value} (hg : g.method = m) (hsize : g.locals.size = c.maxLocals) (hdg : decode c.code g.pc = .ok (ig, len)) (hW : 2 * g.monitorRoom + (g.stack.map fun v => v.category).sum ≤ W) (hn : U.methodNamed? y = some mk)
    (hframes : S.room.frames + 1 ≤ R.frames) (hlocals : W + (maxL + 11) + S.room.locals ≤ R.locals) (h1 : S.pre.before a U = true) (h2 : (Cond.code y bytes maxL ret).before a U = true) (h3 : (Cond.initialized y.cls).before a U = true) (h4 : cells + S.room.cells ≤ R.cells) (h5 : slots + S.room.slots ≤ R.slots) (hP : P a (U.calling g mk a)) :
    ∃ (x : Addr) (t U' : State) (L : List Loc), U'.heap = t.heap ∧ U'.vm = t.vm ∧ Q a (U.calling g mk a) (.threw x) t ∧ (∀ q ∈ L, free q.base) ∧ Stand p l e R s m args below meth c U' (locs ++ L) (cells + mc) (slots + ms) ∧ Steps p.tables e below (doInvoke e (U.setTop g) [] mk a).1 ((U'.setTop g).pushFrame (.throwing x)) := by
  subst hg
  have hA := X.here
  obtain ⟨methY, cY, hmY, hcY, -, hlY, -, -, -, -⟩ := Cond.code_spec hn h2
  obtain ⟨kY, hkY, -⟩ := className_of_methodNamed hn
  have happ : S.appliesLoose y e.platform (U.calling g mk a) = true := Spec.appliesLoose_calling (g := g) hA hdg hn hkY (Cond.initialized_spec (findClass_of_methodNamed hn) hkY h3) (X.room_calling (g := g) (R' := S.room) hsize hmY hcY hframes (by rw [hlY]; omega) h4 h5) h1
  obtain ⟨mid, hmid⟩ := hA.above
  have hfr : (U.setTop g).frames = (.java g :: mid) ++ below := by rw [State.frames_setTop' g hA.top, hmid]; rfl
  obtain ⟨o, t, hsteps, -, hend, hq, L, hFE, hL⟩ := Steps.callFree hM p X.admits X.cas X.clock (acts := []) hfr happ hP trivial
  have hFE9 : ax_FE (U.calling g mk a) o t L mc ms := hFE
  obtain ⟨⟨x, rfl⟩, hWt, q1, q2, q3, q4, q5, q6⟩ := hFE9
  rw [State.frames_setTop' g hA.top] at hend
  have hft : t.frames = .throwing x :: .java g :: U.frames.tail := hend
  have hWU : U.WarmedH t.vm := hWt
  obtain ⟨g0, h0⟩ := Option.isSome_iff_exists.mp hA.top
  obtain ⟨fs, hfs⟩ := State.topJava?_eq_some.mp h0
  obtain ⟨V, hV⟩ : ∃ V : State, V = { U with heap := t.heap, slotsUsed := t.slotsUsed } := ⟨_, rfl⟩
  have ht : t = (((V.setVm t.vm)).setTop g).pushFrame (.throwing x) := by
    have e2 : t = ({ (U.calling g mk a).setFrames t.frames with heap := t.heap, slotsUsed := t.slotsUsed } : State).setVm t.vm := by
      have e3 : t = ({ t with vm := (U.calling g mk a).vm } : State).setVm t.vm := rfl
      rw [q1] at e3
      exact e3
    have hfs' : (V.setVm t.vm).frames = .java g0 :: fs := by rw [hV]; exact hfs
    refine e2.trans ?_
    rw [hft, State.calling_eq hA.top, State.setFrames_setFrames, State.pushFrame, State.frames_setTop _ hfs', State.setTop_of_frames _ hfs', State.setFrames_setFrames, hfs, hV]
    rfl
  have hsame : U.sameButNew V L mc ms := by
    rw [hV]
    refine ⟨?_, q2, q3, q4, q5, q6⟩
    obtain ⟨th, hth, -⟩ := State.frames_cons hfs
    show ({ U with heap := t.heap, slotsUsed := t.slotsUsed } : State) = { U.setFrames U.frames with heap := t.heap, slotsUsed := t.slotsUsed }
    rw [State.setFrames_self hth]
  have hHere : At (V.setVm t.vm) g.method c below := by rw [hV]; exact (X.here.setHeapUsed t.heap t.slotsUsed).setVm hWU.alike
  refine ⟨x, t, V.setVm t.vm, L, by rw [hV]; rfl, rfl, hq, hL, ⟨X.admits, X.cas, X.clock, X.frames, X.room, X.hears, X.method, X.code, hHere, by rw [hV]; exact X.tail, State.WarmedH.trans X.warmed hWU, by rw [hV]; exact X.limits, by rw [hV]; exact X.bytes, X.same.trans (hsame.setVm s.vm)⟩, ?_⟩
  rw [← ht]
  exact hsteps
end AX0

/-! ===== a call that throws, its handler; the law's own methods with handlers ===== -/
def am_ex (X : am_X) : Prop := match X with
  | (p, l, e, R, s, m, args, below, meth, c, Q, D, tc, A, G, mc, ms, nL) => am_e A s
abbrev am_Hs : Type := List (Nat × Nat × Nat × Nat)
def am_hs (X : am_X) (hs : am_Hs) : Prop := match X with
  | (p, l, e, R, s, m, args, below, meth, c, Q, D, tc, A, G, mc, ms, nL) => c.exceptionTable.toList.map (fun h => (h.startPc, h.endPc, h.handlerPc, h.catchType)) = hs
/-- where a throw of xc at pc goes -/
def ax_hd (own xc : String) (hs : am_Hs) (pc hp : Nat) : Prop :=
  (∃ (s1 e1 t1 : Nat) (hr : am_Hs), hs = (s1, e1, hp, t1) :: hr ∧ s1 ≤ pc ∧ pc < e1 ∧ t1 ≠ 0 ∧ Cond.classLink own t1 xc ∈ am_T) ∨
  (xc = ax_U ∧ ∃ (s1 e1 h1 t1 s2 e2 t2 : Nat) (hr : am_Hs), hs = (s1, e1, h1, t1) :: (s2, e2, hp, t2) :: hr ∧ s1 ≤ pc ∧ pc < e1 ∧ s2 ≤ pc ∧ pc < e2 ∧ t1 ≠ 0 ∧ t2 ≠ 0 ∧ Cond.classLink own t1 ax_I ∈ am_T ∧ Cond.classLink own t2 xc ∈ am_T)
theorem ax_pass {Q : Handler → Pre} {E : CtlPost} {e : Env} {d : Bool} {acts : List Action} {s : State} {f : JFrame} {a : Addr} {x : ExceptionTableEntry} {t : List ExceptionTableEntry} {c : ClassId} {cell : Cell} (hx : covers x f.pc = true) (h0 : x.catchType ≠ 0)
    (hl : s.vm.ClassLinks e.platform f.method.cls x.catchType c) (hcell : s.heap[a]? = some cell) (hobj : ∀ k, cell.vm ≠ .statics k) (hk : ∃ k, s.vm.classes[cell.cls]? = some k) (hc : ∃ k, s.vm.classes[c]? = some k) (hfit : s.vm.assignable cell.cls c = false) :
    wp (findHandler.go f a (x :: t)) Q E e d acts s ↔ wp (findHandler.go f a t) Q E e d acts (s.setVm (s.vm.noted f.method.cls x.catchType (.cls c))) := by
  simp only [covers] at hx
  obtain ⟨ha, ht⟩ := (resolveClass_links e.toSetting hl).op (op := VmOp.resolveClass f.method.cls x.catchType) rfl
  have hal : s.vm.Alike (s.vm.noted f.method.cls x.catchType (.cls c)) := (Vm.Alike.refl s.vm).noted _ _ _
  obtain ⟨k1, hk1⟩ := hk
  obtain ⟨k2, hk2⟩ := hc
  obtain ⟨k1', hk1', -⟩ := hal.2.2 _ _ hk1
  obtain ⟨k2', hk2', -⟩ := hal.2.2 _ _ hk2
  have hfit' : (s.vm.noted f.method.cls x.catchType (.cls c)).assignable cell.cls c = false := by rw [hal.assignable]; exact hfit
  simp [findHandler.go, hx, h0, ha, ht, hcell, hobj, hk1', hk2', hfit', VmOp.dirties, VmOp.acts]
section AXC
variable {p : Program} {l : Launch} {e : Env} {R : Room} {s : State} {m : MethodId} {args : Array Value} {below : List Frame} {meth : Method} {c : Code} {T : State} {locs : List Loc} {cells slots : Nat}
theorem ax_second (X : Stand p l e R s m args below meth c T locs cells slots) (a : Addr) {g : JFrame} (hg : g.method = m) {own n1 n2 : String} (hown : s.vm.findClass own = some m.cls) {x1 x2 : ExceptionTableEntry} {rest : List ExceptionTableEntry} (hsplit : c.exceptionTable.toList = x1 :: x2 :: rest)
    (hx1 : covers x1 g.pc = true) (hx2 : covers x2 g.pc = true) (h01 : x1.catchType ≠ 0) (h02 : x2.catchType ≠ 0) (hl1 : (Cond.classLink own x1.catchType n1).before args s = true) (hl2 : (Cond.classLink own x2.catchType n2).before args s = true) {c1 c2 : ClassId} {cell : Cell} (hc1 : s.vm.findClass n1 = some c1) (hc2 : s.vm.findClass n2 = some c2)
    (hcell : T.heap[a]? = some cell) (hobj : cell.vm.isStatics = false) (hno : s.vm.assignable cell.cls c1 = false) (hfit : s.vm.assignable cell.cls c2 = true) :
    ∃ vm', Stand p l e R s m args below meth c (T.setVm vm') locs cells slots ∧
      ∀ target, Steps p.tables e below ((T.setVm vm').setTop { g with pc := x2.handlerPc, stack := [.ref a] }) target → Steps p.tables e below ((T.setTop g).pushFrame (.throwing a)) target := by
  have hpl : e.platform.magicAccessors = ({} : Platform).magicAccessors := by rw [X.admits.platform]
  obtain ⟨c1', hc1', hcl1⟩ := Cond.classLink_spec hown hl1 e.platform hpl
  cases hc1.symm.trans hc1'
  obtain ⟨c2', hc2', hcl2⟩ := Cond.classLink_spec hown hl2 e.platform hpl
  cases hc2.symm.trans hc2'
  obtain ⟨d1, _, _, kt1, hd1, _, _, _, _, hkt1, _, ho1⟩ := hcl1.here
  obtain ⟨d2, _, _, kt2, hd2, _, _, _, _, hkt2, _, ho2⟩ := hcl2.here
  have hW1 : s.WarmedH (T.vm.noted m.cls x1.catchType (.cls c1)) := X.warmed.noted hd1 ho1 (State.rightAt_cls hcl1)
  have hW2 : s.WarmedH ((T.vm.noted m.cls x1.catchType (.cls c1)).noted m.cls x2.catchType (.cls c2)) := hW1.noted hd2 ho2 (State.rightAt_cls hcl2)
  have hal := X.warmed.alike
  obtain ⟨kt1', hkt1', -⟩ := hal.2.2 _ _ hkt1
  obtain ⟨kt2', hkt2', -⟩ := hW1.alike.2.2 _ _ hkt2
  have hno' : T.vm.assignable cell.cls c1 = false := by rw [hal.assignable]; exact hno
  have hfit' : (T.vm.noted m.cls x1.catchType (.cls c1)).assignable cell.cls c2 = true := by rw [hW1.alike.assignable]; exact hfit
  obtain ⟨kt2'', hkt2'', -⟩ := hal.2.2 _ _ hkt2
  have hkc : ∃ k, T.vm.classes[cell.cls]? = some k := Vm.classAt_of_assignable (show T.vm.assignable cell.cls c2 = true by rw [hal.assignable]; exact hfit) ⟨kt2'', hkt2''⟩
  have hkc' : ∃ k, (T.vm.noted m.cls x1.catchType (.cls c1)).classes[cell.cls]? = some k := Vm.classAt_of_assignable hfit' ⟨kt2', hkt2'⟩
  refine ⟨_, X.noted hW2, fun target hrest => ?_⟩
  subst hg
  refine ax_land X a rfl (vm' := (T.vm.noted g.method.cls x1.catchType (.cls c1)).noted g.method.cls x2.catchType (.cls c2)) ?_ hrest
  intro Q E d acts
  rw [Jvm.W.findHandler_eq (s := (T.setTop g).pushFrame (.throwing a)) (meth := meth) (code := c) X.method' X.code, hsplit]
  rw [ax_pass (s := (T.setTop g).pushFrame (.throwing a)) hx1 h01 (X.warmed.classLinks hcl1) hcell (VmData.ne_statics_of hobj) hkc ⟨kt1', hkt1'⟩ hno']
  exact ax_take (s := ((T.setTop g).pushFrame (.throwing a)).setVm (T.vm.noted g.method.cls x1.catchType (.cls c1))) hx2 h02 (hW1.classLinks hcl2) hcell (VmData.ne_statics_of hobj) hkc' ⟨kt2', hkt2'⟩ hfit'
end AXC
set_option maxHeartbeats 1000000 in
/-- a call that throws, and is caught -/
theorem aw_callT {X : am_X} {cc : ByteArray} {own : String} {nl dd pc n bc bs hp : Nat} {lv : List (Option am_V)} {r stk av : List am_V} {w wc pre suf : List am_C} {y : MethodName} {b : ByteArray} {maxL d idx k ci : Nat} {ret : Option FieldType} {spec : List am_V → List am_C → Prop} {xc : String} {hs : am_Hs}
    (K : am_ok X cc own nl dd) (hE : am_ex X) (hH : am_hs X hs) (hM : ConT y b maxL ret d xc spec) (hB : am_cB own idx y b maxL ret av.length) (hI : Cond.instanceMethod y ∈ am_T) (hSel : Cond.selects y.cls y y ∈ am_T) (hdd : d + 1 ≤ dd) (hfr : fr_in pre wc suf w) {T : u_T} {N : Nat} (hcl : classes[ci]? = some (y.cls, T, N)) {fs : List am_V} (hw : wc[k]? = some (oC ci fs)) (dg : decode cc pc = .ok (.invokevirtual idx, 3))
    (hstk : stk = (av.map (sh_v pre.length)).reverse ++ aR (pre.length + k) :: r) (hr8 : am_sz r ≤ 8) (h : spec (aR k :: av) wc) (hhd : ax_hd own xc hs pc hp) (hcast : Cond.castable xc xc ∈ ax_XT)
    (d9 : (∃ j : Fin 4, decode cc hp = .ok (.astore_n j, 1) ∧ (j : Nat) < nl ∧ hp + 1 = n) ∨ ∃ j : Nat, decode cc hp = .ok (.astore j, 2) ∧ j < nl ∧ hp + 2 = n) (hc1 : 1 ≤ bc) (hc2 : 6 ≤ bs)
    (kk : AW X n (List.replicate nl none) [] w (bc - 1) (bs - 6)) : AW X pc lv stk w bc bs := by
  obtain ⟨p, l, e, R, s, m, args, below, meth, c, Q, D, tc, A, G, mc, ms, nL⟩ := X
  obtain ⟨hx, hb, ⟨hml, rfl⟩, hown, hts, hK, hmc, hms, hA, hlk, hF, hfr9, hlo, htr⟩ := K
  intro ad H locs cells slots ls hG hP hD hS hl hc hs9
  subst hstk
  obtain ⟨hPc, hDc⟩ := fr_sub hfr hP hD
  have hFc : ∀ q, va_A (am_w (fun j => ad (pre.length + j)) tc wc) H.size q → A q := by
    intro q h9
    rcases h9 with ⟨k9, e9, h9⟩ | h9
    · exact hDc.2 k9 (q, e9) h9
    · exact hA q (Nat.le_trans hS.1 h9)
  have hpre : ∀ U : State, U.heap = H → s.WarmedH U.vm → am_PreE D tc (fun j => ad (pre.length + j)) wc H.size U := fun U hU hW => ⟨⟨by rw [hU], by rw [hU]; exact hPc, va_K.moved hW.alike hK, hDc.weaken (fun _ _ _ _ => trivial), hF.to hFc hW (fun q h1 h2 => by rw [hU]; exact hS.2.1 q h1 h2)⟩, am_e.to hE hFc hW (fun q h1 h2 => by rw [hU]; exact hS.2.1 q h1 h2)⟩
  obtain ⟨ad2, had2⟩ : ∃ ad2, ad2 = (fun j => ad (pre.length + j)) := ⟨_, rfl⟩
  rw [← had2] at hPc hDc hFc hpre
  have hargs : ((av.map (sh_v pre.length)).reverse ++ aR (pre.length + k) :: r).map (am_v ad) = ((av.map (am_v ad2)).reverse) ++ .ref (ad2 k) :: r.map (am_v ad) := by
    rw [List.map_append, List.map_reverse, List.map_map, List.map_cons, had2]
    congr 2
    exact List.map_congr_left (fun v _ => sh_v_am ad pre.length v)
  intro T0 hT0 X
  subst hT0
  obtain ⟨⟨-, -, hfr3, hlo3, hws3, hcm, hcode, hini, hy, hlen, hlink⟩, -⟩ : CallB R s args own idx y b maxL ret (am_ws y b maxL ret) (am_rm d 1 6) 1 6 av.length ∧ True := ⟨am_callB hts hB hdd hfr9 hlo, trivial⟩
  obtain ⟨cellB, hcB, hoB, hclB⟩ := va_recv hK hPc hcl (am_w_at hw)
  obtain ⟨mk, methM, hnamed, hmethM, hstM, habM⟩ := Cond.instanceMethod_spec (hts _ hI)
  obtain ⟨methM', cM, hmethM', -, -, -, -, -, -, hsigM⟩ := Cond.code_spec hnamed hcode
  cases hmethM.symm.trans hmethM'
  obtain ⟨q0, r2, m2, q1, q2, q3, q4, kP, hkP, hkPi⟩ := Cond.selects_spec (hts _ hSel)
  cases hclB.symm.trans q1
  cases (State.methodFound?_of_named hnamed hy).symm.trans q2
  cases hnamed.symm.trans q3
  have hselP : selectMethod e.platform s.vm cellB.cls mk = .method mk := by rw [Launch.admits_selectMethod X.admits]; exact q4
  obtain ⟨vm₁, X₁, hstep₁⟩ := X.invokevirtual hx hown hlink hnamed hmethM hstM hkP hkPi hy (a := ad2 k) (cell := cellB) hcB (fun z h => by rw [h] at hoB; cases hoB) hselP hmethM habM hkP hkPi (g := F0 m pc ls (((av.map (sh_v pre.length)).reverse ++ aR (pre.length + k) :: r).map (am_v ad))) rfl (argsL := av.map (am_v ad2)) (rest := r.map (am_v ad)) (by rw [List.length_map]; exact hlen _ hsigM) hargs (by rw [hb]; exact dg)
  have h9pre := hpre (T0.setVm vm₁) rfl X₁.warmed
  obtain ⟨x, t, U', L, e1, e2, hq, hL, X', hsteps⟩ := ax_thrown (S := headSpec (am_ws y b maxL ret) (am_rm d 1 6)) (bytes := b) (maxL := maxL) (ret := ret) (W := 8) (mc := 1) (ms := 6) (hM l htr D tc ad2 (aR k :: av) wc T0.heap.size h) X₁ (g := F0 m pc ls (r.map (am_v ad))) (ig := .invokevirtual idx) (mk := mk) (a := (Value.ref (ad2 k) :: av.map (am_v ad2)).toArray) rfl (by rw [hml]; exact hl.1) (by rw [hb]; exact dg) (by show 2 * 0 + _ ≤ 8; rw [am_sz_eq]; omega) (X₁.named hnamed) hfr3 hlo3 (atoms_intro fun w hw => hws3 w hw _ _ X₁.warmed) (hws3 _ hcm _ _ X₁.warmed) (word_at X₁.warmed (am_T_good hB.2.1) hini) (by show cells + 1 ≤ R.cells; omega) (by show slots + 6 ≤ R.slots; omega)
    ⟨rfl, (am_pre_blind (a := (Value.ref (ad2 k) :: av.map (am_v ad2)).toArray) (U := T0.setVm vm₁) (g := F0 m pc ls (r.map (am_v ad))) (mk := mk) (av := Value.ref (ad2 k) :: av.map (am_v ad2)) ⟨rfl, h9pre.1⟩).2, h9pre.2.blind rfl rfl⟩
  obtain ⟨⟨x', ce, ad', w', ho, hce, hcx, hcs, hself, hG', hw', hP', hK', hD'⟩, hz, hk⟩ := hq
  cases ho
  have e9 : ad' = ad2 := hG'
  subst e9
  subst hw'
  have hz' : T0.heap.size ≤ t.heap.size := hz
  have hk' : ∀ q, q < T0.heap.size → ¬ va_A (am_w ad' tc w') T0.heap.size q → t.heap[q]? = T0.heap[q]? := hk
  have hS' : va_S A s.heap U'.heap (locs ++ L) := ⟨Nat.le_trans hS.1 (by rw [e1]; exact hz'), fun q h1 h2 => by rw [e1, hk' q (Nat.lt_of_lt_of_le h1 hS.1) (fun z => h2 (hFc q z))]; exact hS.2.1 q h1 h2, fun q hq => by
      rcases List.mem_append.mp hq with h | h
      · exact hS.2.2 q h
      · exact hFc _ (hL q h)⟩
  obtain ⟨hP2, hD2⟩ := fr_P (wc' := w') (W' := w) (H1 := U'.heap) hfr hfr rfl hP hD (by rw [← had2, e1]; exact hP') (fun q h1 h2 => by rw [e1]; exact hk' q h1 (by rw [had2]; exact h2))
  have hal := X'.warmed.alike
  have hcx' : s.vm.findClass xc = some ce.cls := by
    have := hcx
    rw [← e2, hal.findClass] at this
    exact this
  have hself' : s.vm.assignable ce.cls ce.cls = true := by
    have := hself
    rw [← e2, hal.assignable] at this
    exact this
  have hceU : U'.heap[x]? = some ce := by rw [e1]; exact hce
  have hcatch : ∃ vm', Stand p l e R s m args below meth c (U'.setVm vm') (locs ++ L) (cells + 1) (slots + 6) ∧ ∀ target, Steps p.tables e below ((U'.setVm vm').setTop (F0 m hp ls [.ref x])) target → Steps p.tables e below ((U'.setTop (F0 m pc ls (r.map (am_v ad)))).pushFrame (.throwing x)) target := by
    have hH' : c.exceptionTable.toList.map (fun h => (h.startPc, h.endPc, h.handlerPc, h.catchType)) = hs := hH
    rcases hhd with ⟨s1, e1', t1, hr, rfl, g1, g2, g3, g4⟩ | ⟨rfl, s1, e1', h1, t1, s2, e2', t2, hr, rfl, g1, g2, g3, g4, g5, g6, g7, g8⟩
    · cases hL9 : c.exceptionTable.toList with
      | nil => rw [hL9] at hH'; cases hH'
      | cons x1 rest =>
        rw [hL9, List.map_cons] at hH'
        injection hH' with i1 i2
        simp only [Prod.mk.injEq] at i1
        obtain ⟨rfl, rfl, rfl, rfl⟩ := i1
        exact ax_first X' x (g := F0 m pc ls (r.map (am_v ad))) rfl hown hL9 (by simp [covers, g1, g2]) g3 (hts _ g4) hcx' hceU hcs hself'
    · cases hL9 : c.exceptionTable.toList with
      | nil => rw [hL9] at hH'; cases hH'
      | cons x1 rest =>
        rw [hL9, List.map_cons] at hH'
        injection hH' with i1 i2
        cases rest with
        | nil => cases i2
        | cons x2 rest =>
          rw [List.map_cons] at i2
          injection i2 with i2 i3
          simp only [Prod.mk.injEq] at i1 i2
          obtain ⟨rfl, rfl, rfl, rfl⟩ := i1
          obtain ⟨rfl, rfl, rfl, rfl⟩ := i2
          obtain ⟨c1, -, hc1f, -, -⟩ := Cond.castable_spec (am_e.wx hE args (.castable ax_I ax_I) (by decide +kernel))
          exact ax_second X' x (g := F0 m pc ls (r.map (am_v ad))) rfl hown hL9 (by simp [covers, g1, g2]) (by simp [covers, g3, g4]) g5 g6 (hts _ g7) (hts _ g8) hc1f hcx' hceU hcs (hE.2.2.2.2 _ _ hcx' hc1f) hself'
  obtain ⟨vm', Y, st⟩ := hcatch
  have hend : W p l e R s m args below meth c U'.heap (locs ++ L) (cells + 1) (slots + 6) Q (F0 m hp ls [.ref x]) := by
    rcases d9 with ⟨j, dj, hj, rfl⟩ | ⟨j, dj, hj, rfl⟩
    · refine lv_astore_n hx hb dj rfl hl hj rfl (fun ls' hl' => ?_)
      exact kk ad U'.heap (locs ++ L) (cells + 1) (slots + 6) ls' hG hP2 hD2 hS' ⟨hl'.1, hl'.2.1, fun q hq => by rw [am_l_none] at hq; cases hq⟩ (by omega) (by omega)
    · refine lv_astore hx hb dj hl hj rfl (fun ls' hl' => ?_)
      exact kk ad U'.heap (locs ++ L) (cells + 1) (slots + 6) ls' hG hP2 hD2 hS' ⟨hl'.1, hl'.2.1, fun q hq => by rw [am_l_none] at hq; cases hq⟩ (by omega) (by omega)
  obtain ⟨t2, a1, b1⟩ := hend (U'.setVm vm') rfl Y
  exact ⟨t2, (hstep₁ _ fun acts => by rw [doInvoke_state]; exact hsteps).trans (st t2 a1), b1⟩

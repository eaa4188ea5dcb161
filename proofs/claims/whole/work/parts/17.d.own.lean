/-! ===== the law's own methods with handlers: contracts and calls ===== -/
def am_wsH (y : MethodName) (b : ByteArray) (maxL : Nat) (ret : Option FieldType) (hs : am_Hs) : List Cond := .codeWith y b maxL ret hs :: am_T
def ConH (y : MethodName) (b : ByteArray) (maxL : Nat) (ret : Option FieldType) (hs : am_Hs) (d : Nat) (spec : am_S) : Prop := ∀ l : Launch, l.stackTraces = false → ∀ (D : va_G) (tc : Nat → ClassId) (ad : Nat → Nat) (av : List am_V) (w : List am_C) (post : Option am_V → List am_C → Prop) (sz : Nat), spec av w post →
  Met l y (am_wsH y b maxL ret hs) (am_rm d 1 6) (va_Pc (av.map (am_v ad)) (am_PreE D tc ad w sz)) (am_Q D tc (am_G false w.length ad) (va_A (am_w ad tc w) sz) post) 1 6 (va_A (am_w ad tc w) sz)
theorem ConH.of {y : MethodName} {b : ByteArray} {maxL : Nat} {ret : Option FieldType} {hs : am_Hs} {d : Nat} {spec : am_S} (hy : plainName y.cls = true) (hlen : ∀ av w post, spec av w post → (am_ea av).length ≤ maxL)
    (H : ∀ X : am_X, am_ok X b y.cls maxL d → am_ex X → am_hs X hs → ∀ av w post, spec av w post → am_rt X ret post → AW X 0 (am_en av maxL) [] w 1 6) : ConH y b maxL ret hs d spec := by
  intro l htr D tc ad av w post sz hsp
  refine MetFree.of_bodyS (code := b) (maxLocals := maxL) (ret := ret) hy ?_ ?_
  · intro args s m h hn
    obtain ⟨m', meth, c, h0, h1, h2, h3, h4, -, h5, h6, -⟩ := Cond.codeWith_spec (atoms_spec (ws := am_wsH y b maxL ret hs) h _ List.mem_cons_self)
    cases hn.symm.trans h0
    exact ⟨meth, c, h1, h2, h3, h4, h5, h6⟩
  · intro p e s m args below meth c s₁ B hml hv _
    obtain ⟨rfl, ⟨hsz, hP, hK, hD0, hF⟩, hE⟩ := hv
    subst hsz
    have hh0 : s₁.heap = s.heap := by rw [B.state]; rfl
    have hD := hD0.self (sz := s.heap.size)
    have hws : ∀ x ∈ am_wsH y b maxL ret hs, x.before (av.map (am_v ad)).toArray s = true := fun x hx => atoms_spec (ws := am_wsH y b maxL ret hs) B.pre x hx
    have X0 := Stand.of_body B
    obtain ⟨m', meth', c', h0, h1, h2, h3, h4, hhs, h5, h6, -⟩ := Cond.codeWith_spec (hws _ List.mem_cons_self)
    cases B.named.symm.trans h0
    cases X0.method.symm.trans h1
    cases X0.code.symm.trans h2
    have K : am_ok (p, l, e, am_rm d 1 6, s, m, (av.map (am_v ad)).toArray, below, meth, c, MQ below (am_Q D tc (am_G false w.length ad) (va_A (am_w ad tc w) s.heap.size) post) (av.map (am_v ad)).toArray s 1 6 (va_A (am_w ad tc w) s.heap.size), D, tc, va_A (am_w ad tc w) s.heap.size, am_G false w.length ad, 1, 6, maxL) b y.cls maxL d :=
      ⟨B.exec, B.bytes, ⟨hml, rfl⟩, findClass_of_methodNamed B.named, fun x hx => hws x (List.mem_cons_of_mem _ hx), hK, Nat.le_refl _, Nat.le_refl _, fun q h => Or.inr h, B.notSynchronized, hF, Nat.le_refl _, Nat.le_refl _, htr⟩
    have h := H _ K hE hhs av w post hsp ⟨B.returns, fun t h9 => h9⟩
    have h2 := h ad s.heap [] 0 0 _ (am_G_rf false w.length ad) hP hD va_S.rf (am_entry ad av (hlen av w post hsp)) (by omega) (by omega)
    rw [lg_entry_eq]
    obtain ⟨t, a1, o, b1, b2, b3⟩ := h2 s₁ hh0 X0
    exact ⟨t, o, a1, b1, b2, ⟨b3.1, b3.2⟩⟩
def am_cH (own : String) (idx : Nat) (y : MethodName) (b : ByteArray) (maxL : Nat) (ret : Option FieldType) (hs : am_Hs) (n : Nat) : Prop := Cond.methodLink own idx y ∈ am_T ∧ Cond.initialized y.cls ∈ am_T ∧ Cond.codeWith y b maxL ret hs ∈ am_T ∧ Cond.static y ∈ am_T ∧ (y.cls ≠ "java/lang/invoke/MethodHandle" ∧ y.cls ≠ "java/lang/invoke/VarHandle" ∧ (parseMethodDescriptor y.desc).map (fun d => d.parameters.length) = some n) ∧ maxL ≤ 21
set_option maxHeartbeats 1000000 in
theorem aw_callSH {X : am_X} {cc : ByteArray} {own : String} {nl dd pc n bc bs : Nat} {lv : List (Option am_V)} {r stk av : List am_V} {w : List am_C} {y : MethodName} {b : ByteArray} {maxL d idx : Nat} {ret : Option FieldType} {hs : am_Hs} {spec : am_S}
    (K : am_ok X cc own nl dd) (hE : am_ex X) (hM : ConH y b maxL ret hs d spec) (hB : am_cH own idx y b maxL ret hs av.length) (hdd : d + 1 ≤ dd) (dg : decode cc pc = .ok (.invokestatic idx, 3)) (hn : pc + 3 = n) (hstk : stk = av.reverse ++ r) (hr8 : am_sz r ≤ 8) (hc1 : 1 ≤ bc) (hc2 : 6 ≤ bs) {F : Option am_V → List am_C → Prop} (h : spec av w F)
    (kk : ∀ (rv : Option am_V) (w' : List am_C), F rv w' → AW X n lv (rv.toList ++ r) w' (bc - 1) (bs - 6)) : AW X pc lv stk w bc bs := by
  obtain ⟨p, l, e, R, s, m, args, below, meth, c, Q, D, tc, A, G, mc, ms, nL⟩ := X
  obtain ⟨hx, hb, ⟨hml, rfl⟩, hown, hts, hK, hmc, hms, hA, hlk, hF, hfr9, hlo, htr⟩ := K
  subst hn
  intro ad H locs cells slots ls hG hP hD hS hl hc hs9
  subst hstk
  have hFc : ∀ q, va_A (am_w ad tc w) H.size q → A q := by
    intro q h9
    rcases h9 with ⟨k9, e9, h9⟩ | h9
    · exact hD.2 k9 (q, e9) h9
    · exact hA q (Nat.le_trans hS.1 h9)
  have hpre : ∀ U : State, U.heap = H → s.WarmedH U.vm → am_PreE D tc ad w H.size U := fun U hU hW => ⟨⟨by rw [hU], by rw [hU]; exact hP, va_K.moved hW.alike hK, hD.weaken (fun _ _ _ _ => trivial), hF.to hFc hW (fun q h1 h2 => by rw [hU]; exact hS.2.1 q h1 h2)⟩, am_e.to hE hFc hW (fun q h1 h2 => by rw [hU]; exact hS.2.1 q h1 h2)⟩
  intro T0 hT0 X
  subst hT0
  obtain ⟨b1, b2, b3, b4, ⟨b5, b6, b7⟩, b8⟩ := hB
  have hws3 : ∀ w ∈ am_wsH y b maxL ret hs, ∀ (a' : Array Value) (U : State), s.WarmedH U.vm → w.before a' U = true := by
    intro w hw a' U hW
    rcases List.mem_cons.mp hw with rfl | hw
    · exact word_at hW (am_T_good b3) (hts _ b3)
    · exact word_at hW (am_T_good hw) (hts _ hw)
  have hback : Back l R p e below s args y 3 8 (fun B a => B.cells + 1 ≤ R.cells ∧ B.slots + 6 ≤ R.slots ∧ B.U.heap = T0.heap ∧ a = (av.map (am_v ad)).toArray) (fun B a v B' => ∃ (t : State) (L : List Loc), B'.U.heap = t.heap ∧ B'.U.vm = t.vm ∧ am_Q D tc (am_G false w.length ad) (va_A (am_w ad tc w) T0.heap.size) F a B.U (.returned v) t ∧ B'.locs = B.locs ++ L ∧ (∀ q ∈ L, va_A (am_w ad tc w) T0.heap.size q.base) ∧ B'.cells = B.cells + 1 ∧ B'.slots = B.slots + 6) := by
    refine Back.of_freeWith (handlers := hs) (S := headSpec (am_wsH y b maxL ret hs) (am_rm d 1 6)) (P := va_Pc (av.map (am_v ad)) (am_PreE D tc ad w T0.heap.size)) (K := fun _ _ _ _ _ => True) (bytes := b) (maxL := maxL) (ret := ret)
      (E := fun a st o t L k n => k = 1 ∧ n = 6 ∧ ∀ q ∈ L, va_A (am_w ad tc w) T0.heap.size q.base) (hM l htr D tc ad av w F T0.heap.size h) (by show d + 1 ≤ _; omega) (by show 8 + (maxL + 11) + 40 * d ≤ _; omega) ?_ ?_ (fun _ _ _ _ _ _ _ _ _ => trivial) ?_ ?_
    · intro m' meth' c' B a Y hp'
      exact ⟨atoms_intro fun w hw => hws3 w hw _ _ Y.warmed, hws3 _ List.mem_cons_self _ _ Y.warmed, word_at Y.warmed (am_T_good b2) (hts _ b2), hp'.1, hp'.2.1⟩
    · intro m' meth' c' B a g mk Y hp'
      have h9 := hpre B.U hp'.2.2.1 Y.warmed
      refine ⟨hp'.2.2.2, (am_pre_blind (a := a) (U := B.U) (g := g) (mk := mk) (av := a.toList) ⟨by simp, h9.1⟩).2, h9.2.blind rfl rfl⟩
    · intro a st o t hq
      obtain ⟨h1, L, h2, h3⟩ := hq
      exact ⟨L, 1, 6, h2, rfl, rfl, h3⟩
    · intro m' meth' c' B a g mk v t L k n Y hp' hq hF' hE'
      obtain ⟨rfl, rfl, hL⟩ := hE'
      exact ⟨t, L, rfl, rfl, hq.1, rfl, hL, rfl, rfl⟩
  obtain ⟨mk, methM, cM, hnamed, hmethM, -, -, -, -, -, -, hsigM⟩ := Cond.codeWith_spec (hts _ b3)
  have hstatic : methM.isStatic = true := Cond.static_spec hnamed hmethM (hts _ b4)
  obtain ⟨kP, hkP, -⟩ := className_of_methodNamed hnamed
  have hinitP : kP.init = .initialized := Cond.initialized_spec (findClass_of_methodNamed hnamed) hkP (hts _ b2)
  have hargs : (av.reverse ++ r).map (am_v ad) = (av.map (am_v ad)).reverse ++ r.map (am_v ad) := by rw [List.map_append, List.map_reverse]
  have hlen : (av.map (am_v ad)).length = methM.sig.parameters.length := by
    rw [hsigM, Option.map_some] at b7
    rw [List.length_map]
    exact (Option.some.inj b7).symm
  obtain ⟨vm₁, X₁, hstep₁⟩ := X.invokestatic hx hown (hts _ b1) hnamed hmethM hstatic hkP hinitP ⟨b5, b6⟩ (g := F0 m pc ls ((av.reverse ++ r).map (am_v ad))) rfl (argsL := av.map (am_v ad)) (rest := r.map (am_v ad)) hlen hargs (by rw [hb]; exact dg)
  obtain ⟨v, ⟨U', L9, k9, n9⟩, X', ⟨t, L, e1, e2, hq, e3, hL, e4, e5⟩, hsteps⟩ := hback m meth c ⟨T0.setVm vm₁, locs, cells, slots⟩ (F0 m pc ls (r.map (am_v ad))) (.invokestatic idx) mk (av.map (am_v ad)).toArray X₁ rfl (by rw [hml]; exact hl.1) (by rw [hb]; exact dg) (by show 2 * 0 + _ ≤ 8; rw [am_sz_eq]; omega) (X₁.named hnamed) ⟨by show cells + 1 ≤ R.cells; omega, by show slots + 6 ≤ R.slots; omega, rfl, rfl⟩
  dsimp only [Pt.U, Pt.locs, Pt.cells, Pt.slots] at X' e1 e2 e3 e4 e5 hsteps hq
  subst e3; subst e4; subst e5
  obtain ⟨⟨rv, ad', w', ho, hG', hF', hP', hK', hD'⟩, hz, hk⟩ := hq
  cases ho
  have e9 : ad' = ad := hG'
  subst e9
  have hz' : T0.heap.size ≤ t.heap.size := hz
  have hk' : ∀ q, q < T0.heap.size → ¬ va_A (am_w ad' tc w) T0.heap.size q → t.heap[q]? = T0.heap[q]? := hk
  have hS' : va_S A s.heap U'.heap (locs ++ L) := ⟨Nat.le_trans hS.1 (by rw [e1]; exact hz'), fun q h1 h2 => by rw [e1, hk' q (Nat.lt_of_lt_of_le h1 hS.1) (fun z => h2 (hFc q z))]; exact hS.2.1 q h1 h2, fun q hq => by
      rcases List.mem_append.mp hq with h | h
      · exact hS.2.2 q h
      · exact hFc _ (hL q h)⟩
  have h9 := kk rv w' hF' ad' U'.heap (locs ++ L) (cells + 1) (slots + 6) ls hG (by rw [e1]; exact hP') (hD'.weaken (fun _ _ _ h => hFc _ h)) hS' hl (by omega) (by omega)
  rw [← am_stk] at h9
  obtain ⟨t2, a1, b1⟩ := h9 U' rfl X'
  exact ⟨t2, (hstep₁ _ fun acts => by rw [doInvoke_state]; exact hsteps).trans a1, b1⟩
section AMI
variable {X : am_X} {cc : ByteArray} {own : String} {nl dd pc n bc bs : Nat} {lv : List (Option am_V)} {r stk av : List am_V} {w wc pre : List am_C} {y : MethodName} {b : ByteArray} {maxL d idx k : Nat}
theorem fr_grow {D : va_G} {ad ad' : Nat → Nat} {tc : Nat → ClassId} {A : Nat → Prop} {H H1 : Heap} {pre wc wc' W : List am_C} (h : fr_in pre wc [] W) (hle : ∀ j, j < wc.length → ad' j = ad (pre.length + j)) (hcl : pre.all (am_fc pre.length) = true) (hP : va_P D classes (am_w ad tc W) H) (hD : va_D A (am_w ad tc W)) (hFc : ∀ q, va_A (am_w (fun j => ad (pre.length + j)) tc wc) H.size q → A q)
    (hP1 : va_P D classes (am_w ad' tc wc') H1) (hD1 : va_D (va_A (am_w (fun j => ad (pre.length + j)) tc wc) H.size) (am_w ad' tc wc')) (hk : ∀ q, q < H.size → ¬ va_A (am_w (fun j => ad (pre.length + j)) tc wc) H.size q → H1[q]? = H[q]?) :
    va_P D classes (am_w (fun j => if j < pre.length then ad j else ad' (j - pre.length)) tc (pre ++ (wc'.map (sh_c pre.length) ++ []))) H1 ∧ va_D A (am_w (fun j => if j < pre.length then ad j else ad' (j - pre.length)) tc (pre ++ (wc'.map (sh_c pre.length) ++ []))) := by
  obtain ⟨a2, ha2⟩ : ∃ a2, a2 = (fun j => if j < pre.length then ad j else ad' (j - pre.length)) := ⟨_, rfl⟩
  have e1 : ∀ j, j < pre.length → a2 j = ad j := fun j hj => by rw [ha2]; exact if_pos hj
  have e2 : (fun j => a2 (pre.length + j)) = ad' := by
    funext j
    rw [ha2]
    show (if pre.length + j < pre.length then _ else ad' (pre.length + j - pre.length)) = ad' j
    rw [if_neg (by omega), Nat.add_sub_cancel_left]
  rw [← ha2]
  have hfr' : fr_in pre wc' [] (pre ++ (wc'.map (sh_c pre.length) ++ [])) := rfl
  have hpre : ∀ (j : Nat) (q : Nat × va_E), j < pre.length → (am_w a2 tc (pre ++ (wc'.map (sh_c pre.length) ++ [])))[j]? = some q → (am_w ad tc W)[j]? = some q := by
    intro j q hj hq
    rw [am_w_get, List.getElem?_append_left hj] at hq
    rw [am_w_get, show W[j]? = pre[j]? from by rw [h]; exact List.getElem?_append_left hj]
    have hc : pre[j]? = some pre[j] := List.getElem?_eq_getElem hj
    rw [hc] at hq ⊢
    rw [← Option.some.inj hq]
    show some (ad j, am_c ad tc pre[j]) = some (a2 j, am_c a2 tc pre[j])
    rw [e1 j hj, am_c_fr (n := pre.length) (fun k hk => e1 k hk) (List.all_eq_true.mp hcl _ (List.getElem_mem hj))]
  have hpost : ∀ (j : Nat) (q : Nat × va_E), ¬ j < pre.length → (am_w a2 tc (pre ++ (wc'.map (sh_c pre.length) ++ [])))[j]? = some q → (am_w ad' tc wc')[j - pre.length]? = some q := by
    intro j q hj hq
    rw [am_w_get, List.append_nil, List.getElem?_append_right (by omega), List.getElem?_map] at hq
    rw [am_w_get]
    cases hc : wc'[j - pre.length]? with
    | none => rw [hc] at hq; cases hq
    | some c =>
      rw [hc] at hq
      rw [← Option.some.inj hq]
      show some (ad' (j - pre.length), am_c ad' tc c) = some (a2 j, am_c a2 tc (sh_c pre.length c))
      rw [sh_c_am, e2]
      have : a2 j = ad' (j - pre.length) := by rw [ha2]; exact if_neg hj
      rw [this]
  have hkeep : ∀ (j : Nat) (q : Nat × va_E), j < pre.length → (am_w ad tc W)[j]? = some q → q.1 < H.size ∧ ¬ va_A (am_w (fun j => ad (pre.length + j)) tc wc) H.size q.1 := by
    intro j q hj hq
    have hv := (hP j q hq).lt
    refine ⟨hv, fun z => ?_⟩
    rcases z with ⟨i, e, hi⟩ | z
    · have := hD.1 _ _ _ _ hq (fr_am h hi) rfl
      omega
    · omega
  refine ⟨fun j q hq => ?_, fun i j x y hx hy e => ?_, fun j q hq => ?_⟩
  · by_cases hj : j < pre.length
    · have h9 := hpre j q hj hq
      obtain ⟨g1, g2⟩ := hkeep j q hj h9
      exact (hP j q h9).kept (hk q.1 g1 g2)
    · exact hP1 _ q (hpost j q hj hq)
  · by_cases hi : i < pre.length
    · by_cases hj : j < pre.length
      · exact hD.1 i j x y (hpre i x hi hx) (hpre j y hj hy) e
      · exact absurd (by rw [e]; exact hD1.2 _ y (hpost j y hj hy)) (hkeep i x hi (hpre i x hi hx)).2
    · by_cases hj : j < pre.length
      · exact absurd (by rw [← e]; exact hD1.2 _ x (hpost i x hi hx)) (hkeep j y hj (hpre j y hj hy)).2
      · have := hD1.1 _ _ _ _ (hpost i x hi hx) (hpost j y hj hy) e
        omega
  · by_cases hj : j < pre.length
    · exact hD.2 j q (hpre j q hj hq)
    · exact hFc _ (hD1.2 _ q (hpost j q hj hq))
set_option maxHeartbeats 1000000 in
/-- a constructor's call on the world's last part -/
theorem aw_callIF {mc0 ms0 : Nat} {spec : am_S} (K : am_ok X cc own nl dd) (hal : am_al X pre.length) (hM : Con y b maxL none d mc0 ms0 true spec) (hB : am_cB own idx y b maxL none av.length) (hI : Cond.instanceMethod y ∈ am_T) (hy1 : y.name = "<init>") (hdd : d + 1 ≤ dd) (hfr : fr_in pre wc [] w) (hcl : pre.all (am_fc pre.length) = true) (dg : decode cc pc = .ok (.invokespecial idx, 3)) (hn : pc + 3 = n) (hstk : stk = (av.map (sh_v pre.length)).reverse ++ aR (pre.length + k) :: r) (hr8 : am_sz r ≤ 8) (hc1 : mc0 ≤ bc) (hc2 : ms0 ≤ bs) (hfl : lv.all (am_fo w.length) = true) (hfr9 : r.all (am_fr w.length) = true) {F : Option am_V → List am_C → Prop} (h : spec (aR k :: av) wc F)
    (kk : ∀ (wc' : List am_C), F none wc' → AW X n lv r (pre ++ (wc'.map (sh_c pre.length) ++ [])) (bc - mc0) (bs - ms0)) (hno : ∀ (rv : Option am_V) (w' : List am_C), F rv w' → rv = none) : AW X pc lv stk w bc bs := by
  obtain ⟨p, l, e, R, s, m, args, below, meth, c, Q, D, tc, A, G, mc, ms, nL⟩ := X
  obtain ⟨hx, hb, ⟨hml, rfl⟩, hown, hts, hK, hmc, hms, hA, hlk, hF, hfrR, hlo, htr⟩ := K
  subst hn
  intro ad H locs cells slots ls hG hP hD hS hl hc hs
  subst hstk
  obtain ⟨hPc, hDc⟩ := fr_sub hfr hP hD
  have hFc : ∀ q, va_A (am_w (fun j => ad (pre.length + j)) tc wc) H.size q → A q := by
    intro q h9
    rcases h9 with ⟨k9, e9, h9⟩ | h9
    · exact hDc.2 k9 (q, e9) h9
    · exact hA q (Nat.le_trans hS.1 h9)
  have hpre : ∀ U : State, U.heap = H → s.WarmedH U.vm → am_Pre D tc (fun j => ad (pre.length + j)) wc H.size U := fun U hU hW => ⟨by rw [hU], by rw [hU]; exact hPc, va_K.moved hW.alike hK, hDc.weaken (fun _ _ _ _ => trivial), hF.to hFc hW (fun q h1 h2 => by rw [hU]; exact hS.2.1 q h1 h2)⟩
  have hargs : ((av.map (sh_v pre.length)).reverse ++ aR (pre.length + k) :: r).map (am_v ad) = ((av.map (am_v (fun j => ad (pre.length + j)))).reverse) ++ .ref (ad (pre.length + k)) :: r.map (am_v ad) := by
    rw [List.map_append, List.map_reverse, List.map_map, List.map_cons]
    congr 2
    exact List.map_congr_left (fun v _ => sh_v_am ad pre.length v)
  refine am_goK (va_runI (As := av.map (am_v (fun j => ad (pre.length + j)))) (rest := r.map (am_v ad)) (b := ad (pre.length + k)) ⟨hx, hb, hml, hown, hts⟩ (hM l htr D tc (fun j => ad (pre.length + j)) (aR k :: av) wc F H.size h) ⟨am_callB hts hB hdd hfrR hlo, hy1, hts _ hI⟩ ⟨am_pre_blind, fun U hU hW => ⟨rfl, hpre U hU hW⟩⟩ rfl (by simp) hl.1 hargs (lv_room (by rw [am_sz_eq]; exact hr8)) dg ⟨by omega, by omega⟩) hS hFc (fun rv ad' w' H1 locs1 hG' hF1 hP1 hD1 hk1 hS1 => ?_)
  have e9 := hno rv w' hF1
  subst e9
  have hup : ∀ k, k < wc.length → ad' k = ad (pre.length + k) := hG'
  have hlenw : w.length = pre.length + wc.length := by rw [hfr]; simp
  obtain ⟨hP2, hD2⟩ := fr_grow hfr hup hcl hP hD hFc hP1 hD1 hk1
  have hup2 : ∀ k, k < w.length → (fun j => if j < pre.length then ad j else ad' (j - pre.length)) k = ad k := by
    intro k hk
    show (if k < pre.length then ad k else ad' (k - pre.length)) = ad k
    by_cases h : k < pre.length
    · rw [if_pos h]
    · rw [if_neg h, hup (k - pre.length) (by omega)]
      congr 1
      omega
  have h9 := kk w' hF1 _ H1 locs1 (cells + mc0) (slots + ms0) ls (hal ad _ hG (fun k hk => hup2 k (by omega))) hP2 hD2 hS1 (by rw [am_l_fr hup2 hfl]; exact hl) (by omega) (by omega)
  rw [am_r_fr hup2 hfr9] at h9
  exact h9
end AMI

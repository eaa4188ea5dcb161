/-! ===== contracts that end in a throw; a call within a frame; a call that throws, and the handler ===== -/
def am_PreE (D : va_G) (tc : Nat → ClassId) (ad : Nat → Nat) (w : List am_C) (sz : Nat) (U : State) : Prop := am_Pre D tc ad w sz U ∧ am_e (va_A (am_w ad tc w) sz) U
def am_QX (xc : String) (D : va_G) (tc : Nat → ClassId) (ad : Nat → Nat) (w : List am_C) (sz : Nat) : Array Value → State → Outcome → State → Prop := fun a st o t => am_QT xc D tc (am_G false w.length ad) (va_A (am_w ad tc w) sz) (fun w' => w' = w) a st o t ∧ ∃ L, ax_FE st o t L 1 6 ∧ ∀ q ∈ L, va_A (am_w ad tc w) sz q.base
def ConT (y : MethodName) (b : ByteArray) (maxL : Nat) (ret : Option FieldType) (d : Nat) (xc : String) (spec : List am_V → List am_C → Prop) : Prop := ∀ l : Launch, l.stackTraces = false → ∀ (D : va_G) (tc : Nat → ClassId) (ad : Nat → Nat) (av : List am_V) (w : List am_C) (sz : Nat), spec av w →
  MetFree l y (headSpec (am_ws y b maxL ret) (am_rm d 1 6)) (va_Pc (av.map (am_v ad)) (am_PreE D tc ad w sz)) (fun _ _ _ _ _ => True) (am_QX xc D tc ad w sz)
theorem ConT.of {y : MethodName} {b : ByteArray} {maxL : Nat} {ret : Option FieldType} {d : Nat} {xc : String} {spec : List am_V → List am_C → Prop} (hy : plainName y.cls = true) (hlen : ∀ av w, spec av w → (am_ea av).length ≤ maxL)
    (H : ∀ X : am_X, am_ok X b y.cls maxL d → ∀ av w, spec av w → am_rx X xc (fun w' => w' = w) → am_rt X ret (fun _ _ => False) → AW X 0 (am_en av maxL) [] w 1 6) : ConT y b maxL ret d xc spec := by
  intro l htr D tc ad av w sz hsp
  refine MetFree.of_bodyS (code := b) (maxLocals := maxL) (ret := ret) hy ?_ ?_
  · intro args s m h hn
    obtain ⟨meth, c, h1, h2, h3, h4, h5, h6, -, -⟩ := Cond.code_spec hn (atoms_spec (ws := am_ws y b maxL ret) h _ List.mem_cons_self)
    exact ⟨meth, c, h1, h2, h3, h4, h5, h6⟩
  · intro p e s m args below meth c s₁ B hml hv _
    obtain ⟨rfl, ⟨hsz, hP, hK, hD0, hF⟩, hE⟩ := hv
    subst hsz
    have hh0 : s₁.heap = s.heap := by rw [B.state]; rfl
    have hD := hD0.self (sz := s.heap.size)
    have hws : ∀ x ∈ am_ws y b maxL ret, x.before (av.map (am_v ad)).toArray s = true := fun x hx => atoms_spec (ws := am_ws y b maxL ret) B.pre x hx
    have hnh : c.exceptionTable.toList = [] := by
      have := B.noHandlers (hws _ List.mem_cons_self)
      simpa using this
    have K : am_ok (p, l, e, am_rm d 1 6, s, m, (av.map (am_v ad)).toArray, below, meth, c, MQT below (am_QT xc D tc (am_G false w.length ad) (va_A (am_w ad tc w) s.heap.size) (fun w' => w' = w)) (av.map (am_v ad)).toArray s 1 6 (va_A (am_w ad tc w) s.heap.size), D, tc, va_A (am_w ad tc w) s.heap.size, am_G false w.length ad, 1, 6, maxL) b y.cls maxL d :=
      ⟨B.exec, B.bytes, ⟨hml, rfl⟩, findClass_of_methodNamed B.named, fun x hx => hws x (List.mem_cons_of_mem _ hx), hK, Nat.le_refl _, Nat.le_refl _, fun q h => Or.inr h, B.notSynchronized, hF, Nat.le_refl _, Nat.le_refl _, htr⟩
    have h := H _ K av w hsp ⟨hE, hnh, fun t h9 => h9⟩ ⟨B.returns, fun t h9 => by obtain ⟨o, -, -, ⟨⟨_, _, _, -, -, hf, -⟩, -⟩, -⟩ := h9; exact hf.elim⟩
    have h2 := h ad s.heap [] 0 0 _ (am_G_rf false w.length ad) hP hD va_S.rf (am_entry ad av (hlen av w hsp)) (by omega) (by omega)
    rw [lg_entry_eq]
    obtain ⟨t, a1, o, b1, b2, b3⟩ := h2 s₁ hh0 (Stand.of_body B)
    exact ⟨t, o, a1, b1, b2, ⟨b3.1, b3.2⟩⟩
/-! the frame -/
def sh_v (k : Nat) (v : am_V) : am_V := match v with
  | .inr (.inr (some j)) => .inr (.inr (some (k + j)))
  | v => v
def sh_c (k : Nat) (c : am_C) : am_C := match c with
  | .inl (ci, fs) => .inl (ci, fs.map (sh_v k))
  | .inr a => .inr a
theorem sh_v_am (ad : Nat → Nat) (k : Nat) (v : am_V) : am_v ad (sh_v k v) = am_v (fun j => ad (k + j)) v := by
  rcases v with x | x | _ | x <;> rfl
theorem sh_c_am (ad : Nat → Nat) (tc : Nat → ClassId) (k : Nat) (c : am_C) : am_c ad tc (sh_c k c) = am_c (fun j => ad (k + j)) tc c := by
  rcases c with ⟨ci, fs⟩ | ⟨t, n, f | f⟩
  · show Sum.inr (ci, (fs.map (sh_v k)).map (am_v ad)) = Sum.inr (ci, fs.map (am_v fun j => ad (k + j)))
    rw [List.map_map]
    congr 2
    exact List.map_congr_left (fun v _ => sh_v_am ad k v)
  · rfl
  · rfl
theorem sh_v0 (v : am_V) : sh_v 0 v = v := by
  rcases v with x | x | _ | x
  · rfl
  · rfl
  · rfl
  · show (Sum.inr (Sum.inr (some (0 + x))) : am_V) = _; rw [Nat.zero_add]
theorem sh_c0 (c : am_C) : sh_c 0 c = c := by
  rcases c with ⟨ci, fs⟩ | a
  · show Sum.inl (ci, fs.map (sh_v 0)) = _
    rw [show fs.map (sh_v 0) = fs from by rw [List.map_congr_left (fun v _ => sh_v0 v)]; exact List.map_id' fs]
  · rfl
theorem sh_w0 (w : List am_C) : w.map (sh_c 0) = w := by rw [List.map_congr_left (fun c _ => sh_c0 c)]; exact List.map_id' w
theorem am_w_get (ad : Nat → Nat) (tc : Nat → ClassId) (w : List am_C) (j : Nat) : (am_w ad tc w)[j]? = (w[j]?).map (fun c => (ad j, am_c ad tc c)) := by
  simp [am_w]
/-- the part of a world from place k on, in its own numbers -/
def fr_in (pre wc suf W : List am_C) : Prop := W = pre ++ (wc.map (sh_c pre.length) ++ suf)
theorem fr_get {pre wc suf W : List am_C} (h : fr_in pre wc suf W) {i : Nat} {c : am_C} (hc : wc[i]? = some c) : W[pre.length + i]? = some (sh_c pre.length c) := by
  subst h
  have hi := (List.getElem?_eq_some_iff.mp hc).1
  rw [List.getElem?_append_right (by omega), Nat.add_sub_cancel_left, List.getElem?_append_left (by simpa using hi), List.getElem?_map, hc]
  rfl
theorem fr_am {ad : Nat → Nat} {tc : Nat → ClassId} {pre wc suf W : List am_C} (h : fr_in pre wc suf W) {i : Nat} {q : Nat × va_E} (hq : (am_w (fun j => ad (pre.length + j)) tc wc)[i]? = some q) : (am_w ad tc W)[pre.length + i]? = some q := by
  rw [am_w_get] at hq ⊢
  cases hc : wc[i]? with
  | none => rw [hc] at hq; cases hq
  | some c =>
    rw [hc] at hq
    rw [fr_get h hc, ← Option.some.inj hq]
    show some (ad (pre.length + i), am_c ad tc (sh_c pre.length c)) = _
    rw [sh_c_am]
theorem fr_out {pre wc wc' suf W W' : List am_C} (h : fr_in pre wc suf W) (h' : fr_in pre wc' suf W') (hl : wc'.length = wc.length) {j : Nat} (hj : j < pre.length ∨ pre.length + wc.length ≤ j) : W'[j]? = W[j]? := by
  subst h
  subst h'
  rcases hj with hj | hj
  · rw [List.getElem?_append_left hj, List.getElem?_append_left hj]
  · have e : ∀ wx : List am_C, wx.length = wc.length → (pre ++ (wx.map (sh_c pre.length) ++ suf))[j]? = suf[j - pre.length - wc.length]? := by
      intro wx hx
      rw [List.getElem?_append_right (by omega)]
      rw [List.getElem?_append_right (by rw [List.length_map]; omega)]
      rw [List.length_map, hx]
    rw [e wc' hl, e wc rfl]
theorem fr_P {D : va_G} {ad : Nat → Nat} {tc : Nat → ClassId} {A : Nat → Prop} {H H1 : Heap} {pre wc wc' suf W W' : List am_C} (h : fr_in pre wc suf W) (h' : fr_in pre wc' suf W') (hl : wc'.length = wc.length) (hP : va_P D classes (am_w ad tc W) H) (hD : va_D A (am_w ad tc W))
    (hP1 : va_P D classes (am_w (fun j => ad (pre.length + j)) tc wc') H1) (hk : ∀ q, q < H.size → ¬ va_A (am_w (fun j => ad (pre.length + j)) tc wc) H.size q → H1[q]? = H[q]?) : va_P D classes (am_w ad tc W') H1 ∧ va_D A (am_w ad tc W') := by
  have hlW : W'.length = W.length := by
    subst h
    subst h'
    simp [hl]
  have hadr : ∀ (i : Nat) (q : Nat × va_E), (am_w ad tc W')[i]? = some q → ∃ q0, (am_w ad tc W)[i]? = some q0 ∧ q0.1 = q.1 := by
    intro i q hq
    rw [am_w_get] at hq
    cases hc : W'[i]? with
    | none => rw [hc] at hq; cases hq
    | some c =>
      rw [hc] at hq
      have hi := (List.getElem?_eq_some_iff.mp hc).1
      have hc0 : W[i]? = some (W[i]'(by omega)) := List.getElem?_eq_getElem (by omega)
      refine ⟨(ad i, am_c ad tc (W[i]'(by omega))), by rw [am_w_get, hc0]; rfl, ?_⟩
      rw [← Option.some.inj hq]
  refine ⟨fun j q hq => ?_, fun i j x y hx hy e => ?_, fun k q hq => ?_⟩
  · by_cases hj : j < pre.length ∨ pre.length + wc.length ≤ j
    · have hq0 : (am_w ad tc W)[j]? = some q := by rw [am_w_get, ← fr_out h h' hl hj, ← am_w_get]; exact hq
      have hv := hP j q hq0
      refine hv.kept (hk q.1 hv.lt (fun z => ?_))
      rcases z with ⟨i, e, hi⟩ | z
      · have h9 := fr_am h hi
        have := hD.1 _ _ _ _ hq0 h9 rfl
        have hlt : i < wc.length := by
          have := (List.getElem?_eq_some_iff.mp hi).1
          simpa [am_w] using this
        omega
      · have := hv.lt; omega
    · have hj1 : pre.length ≤ j := by omega
      obtain ⟨i, rfl⟩ : ∃ i, j = pre.length + i := ⟨j - pre.length, by omega⟩
      have hi : i < wc'.length := by omega
      have hc : wc'[i]? = some wc'[i] := List.getElem?_eq_getElem hi
      have hq2 : (am_w (fun j => ad (pre.length + j)) tc wc')[i]? = some (ad (pre.length + i), am_c (fun j => ad (pre.length + j)) tc wc'[i]) := by rw [am_w_get, hc]; rfl
      have h9 := fr_am h' hq2
      rw [hq] at h9
      rw [Option.some.inj h9]
      exact hP1 i _ hq2
  · obtain ⟨x0, hx0, ex⟩ := hadr i x hx
    obtain ⟨y0, hy0, ey⟩ := hadr j y hy
    exact hD.1 i j x0 y0 hx0 hy0 (by rw [ex, ey, e])
  · obtain ⟨q0, hq0, eq⟩ := hadr k q hq
    rw [← eq]
    exact hD.2 k q0 hq0
theorem fr_sub {D : va_G} {ad : Nat → Nat} {tc : Nat → ClassId} {A : Nat → Prop} {H : Heap} {pre wc suf W : List am_C} (h : fr_in pre wc suf W) (hP : va_P D classes (am_w ad tc W) H) (hD : va_D A (am_w ad tc W)) : va_P D classes (am_w (fun j => ad (pre.length + j)) tc wc) H ∧ va_D A (am_w (fun j => ad (pre.length + j)) tc wc) :=
  ⟨fun i q hq => hP _ q (fr_am h hq), fun i j x y hx hy e => by have := hD.1 _ _ _ _ (fr_am h hx) (fr_am h hy) e; omega, fun i q hq => hD.2 _ q (fr_am h hq)⟩
section AMK
variable {p : Program} {l : Launch} {e : Env} {R : Room} {s : State} {m : MethodId} {args : Array Value} {below : List Frame} {meth : Method} {c : Code} {H : Heap} {locs : List Loc} {cells slots : Nat} {Q : State → Prop}
variable {pc : Nat} {ls : Array Slot} {rest st0 : List Value} {a : Array Value} {A A1 : Nat → Prop} {mc ms : Nat} {D : va_G} {tc : Nat → ClassId} {G : (Nat → Nat) → Prop}
theorem am_goK {post : Option am_V → List am_C → Prop} (hr : va_Run p l e R s m args below meth c H locs cells slots mc ms (F0 m pc ls st0) rest (am_Q D tc G A1 post a) A1) (hS : va_S A s.heap H locs) (hA : ∀ q, A1 q → A q)
    (kk : ∀ (rv : Option am_V) (ad : Nat → Nat) (w : List am_C) (H1 : Heap) (locs1 : List Loc), G ad → post rv w → va_P D classes (am_w ad tc w) H1 → va_D A1 (am_w ad tc w) → (∀ q, q < H.size → ¬ A1 q → H1[q]? = H[q]?) → va_S A s.heap H1 locs1 → W p l e R s m args below meth c H1 locs1 (cells + mc) (slots + ms) Q (F0 m (pc + 3) ls ((rv.map (am_v ad)).toList ++ rest))) : W p l e R s m args below meth c H locs cells slots Q (F0 m pc ls st0) := by
  intro T hT X
  obtain ⟨v, st₀, t, T', L, h0, X', hL, e1, e2, ⟨⟨rv, ad, w, hv, hG, hp, hP, hK, hD⟩, hz, hk⟩, st⟩ := hr T hT X
  cases hv
  rw [h0] at hz hk
  obtain ⟨t2, a1, b1⟩ := kk rv ad w T'.heap (locs ++ L) hG hp (by rw [e1]; exact hP) hD (fun q h1 h2 => by rw [e1]; exact hk q h1 h2)
    ⟨Nat.le_trans hS.1 (by rw [e1]; exact hz), fun q h1 h2 => by rw [e1, hk q (Nat.lt_of_lt_of_le h1 hS.1) (fun z => h2 (hA q z))]; exact hS.2.1 q h1 h2, fun q hq => by
      rcases List.mem_append.mp hq with h | h
      · exact hS.2.2 q h
      · exact hA _ (hL q h)⟩ T' rfl X'
  exact ⟨t2, st t2 a1, b1⟩
end AMK
section AMF
variable {X : am_X} {cc : ByteArray} {own : String} {nl dd pc n bc bs : Nat} {lv : List (Option am_V)} {r stk av : List am_V} {w wc pre suf : List am_C} {y : MethodName} {b : ByteArray} {maxL d idx k ci : Nat} {ret : Option FieldType} {spec : am_S}
/-- a call on a part of the world -/
theorem aw_callVF (K : am_ok X cc own nl dd) (hM : Con y b maxL ret d 0 0 false spec) (hB : am_cB own idx y b maxL ret av.length) (hI : Cond.instanceMethod y ∈ am_T) (hSel : Cond.selects y.cls y y ∈ am_T) (hdd : d + 1 ≤ dd) (hfr : fr_in pre wc suf w) {T : u_T} {N : Nat} (hcl : classes[ci]? = some (y.cls, T, N)) {fs : List am_V} (hw : wc[k]? = some (oC ci fs)) (dg : decode cc pc = .ok (.invokevirtual idx, 3)) (hn : pc + 3 = n) (hstk : stk = (av.map (sh_v pre.length)).reverse ++ aR (pre.length + k) :: r) (hr8 : am_sz r ≤ 8) {F : Option am_V → List am_C → Prop} (h : spec (aR k :: av) wc F)
    (kk : ∀ (rv : Option am_V) (wc' : List am_C), F rv wc' → wc'.length = wc.length ∧ ∀ w', fr_in pre wc' suf w' → AW X n lv ((rv.map (sh_v pre.length)).toList ++ r) w' bc bs) : AW X pc lv stk w bc bs := by
  obtain ⟨p, l, e, R, s, m, args, below, meth, c, Q, D, tc, A, G, mc, ms, nL⟩ := X
  obtain ⟨hx, hb, ⟨hml, rfl⟩, hown, hts, hK, hmc, hms, hA, hlk, hF, hfr9, hlo, htr⟩ := K
  subst hn
  intro ad H locs cells slots ls hG hP hD hS hl hc hs
  subst hstk
  obtain ⟨hPc, hDc⟩ := fr_sub hfr hP hD
  have hFc : ∀ q, va_A (am_w (fun j => ad (pre.length + j)) tc wc) H.size q → A q := by
    intro q h9
    rcases h9 with ⟨k9, e9, h9⟩ | h9
    · exact hDc.2 k9 (q, e9) h9
    · exact hA q (Nat.le_trans hS.1 h9)
  have hpre : ∀ U : State, U.heap = H → s.WarmedH U.vm → am_Pre D tc (fun j => ad (pre.length + j)) wc H.size U := fun U hU hW => ⟨by rw [hU], by rw [hU]; exact hPc, va_K.moved hW.alike hK, hDc.weaken (fun _ _ _ _ => trivial), hF.to hFc hW (fun q h1 h2 => by rw [hU]; exact hS.2.1 q h1 h2)⟩
  have hargs : ((av.map (sh_v pre.length)).reverse ++ aR (pre.length + k) :: r).map (am_v ad) = ((av.map (am_v (fun j => ad (pre.length + j)))).reverse) ++ .ref (ad (pre.length + k)) :: r.map (am_v ad) := by
    rw [List.map_append, List.map_reverse, List.map_map, List.map_cons]
    congr 2
    exact List.map_congr_left (fun v _ => sh_v_am ad pre.length v)
  refine am_goK (va_runV (As := av.map (am_v (fun j => ad (pre.length + j)))) (rest := r.map (am_v ad)) (b := ad (pre.length + k)) ⟨hx, hb, hml, hown, hts⟩ (hM l htr D tc (fun j => ad (pre.length + j)) (aR k :: av) wc F H.size h) ⟨am_callB hts hB hdd hfr9 hlo, hts _ hI, hts _ hSel⟩ ⟨am_pre_blind, va_recv hK hPc hcl (am_w_at hw), fun U hU hW => ⟨rfl, hpre U hU hW⟩⟩ rfl (by simp) hl.1 hargs (lv_room (by rw [am_sz_eq]; exact hr8)) dg ⟨by omega, by omega⟩) hS hFc (fun rv ad' w' H1 locs1 hG' hF1 hP1 hD1 hk1 hS1 => ?_)
  have e9 : ad' = fun j => ad (pre.length + j) := hG'
  subst e9
  obtain ⟨hlen, kk2⟩ := kk rv w' hF1
  obtain ⟨hP2, hD2⟩ := fr_P (wc' := w') (W' := pre ++ (w'.map (sh_c pre.length) ++ suf)) hfr rfl hlen hP hD hP1 hk1
  have h9 := kk2 _ rfl ad H1 locs1 cells slots ls hG hP2 hD2 hS1 hl hc hs
  rw [show (rv.map (am_v (fun j => ad (pre.length + j)))).toList ++ r.map (am_v ad) = ((rv.map (sh_v pre.length)).toList ++ r).map (am_v ad) from by
    cases rv with
    | none => rfl
    | some v => simp [sh_v_am]]
  exact h9
end AMF

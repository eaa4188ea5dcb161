/-! ===== THE ABSTRACT MACHINE: values and cells by number; AW: from here the machine comes to Q ===== -/
abbrev am_V : Type := Int32 ⊕ (Int64 ⊕ Option Nat)
abbrev aI (x : Int32) : am_V := Sum.inl x
abbrev aL (x : Int64) : am_V := Sum.inr (Sum.inl x)
abbrev aR (k : Nat) : am_V := Sum.inr (Sum.inr (some k))
abbrev aN : am_V := Sum.inr (Sum.inr none)
def am_v (ad : Nat → Nat) (x : am_V) : Value := match x with
  | .inl x => .int x
  | .inr (.inl x) => .long x
  | .inr (.inr none) => .null
  | .inr (.inr (some k)) => .ref (ad k)
/-- a cell: an object (its class's number, its fields); an array (its type's number, its length, its contents) -/
abbrev am_C : Type := (Nat × List am_V) ⊕ (Nat × Nat × ((Nat → Int32) ⊕ (Nat → Int64)))
abbrev oC (ci : Nat) (fs : List am_V) : am_C := Sum.inl (ci, fs)
abbrev iC (n : Nat) (f : Nat → Int32) : am_C := Sum.inr (0, n, Sum.inl f)
abbrev zC (n : Nat) (f : Nat → Int32) : am_C := Sum.inr (2, n, Sum.inl f)
abbrev jC (n : Nat) (f : Nat → Int64) : am_C := Sum.inr (1, n, Sum.inr f)
def am_c (ad : Nat → Nat) (tc : Nat → ClassId) (c : am_C) : va_E := match c with
  | .inl (ci, fs) => .inr (ci, fs.map (am_v ad))
  | .inr (t, n, .inl f) => .inl (tc t, n, .inl f)
  | .inr (t, n, .inr f) => .inl (tc t, n, .inr (.inl f))
def am_w (ad : Nat → Nat) (tc : Nat → ClassId) (w : List am_C) : va_W := w.mapIdx (fun k c => (ad k, am_c ad tc c))
def am_tys (tc : Nat → ClassId) : List (ClassId × FieldType) := [(tc 0, .int), (tc 1, .long), (tc 2, .boolean)]
theorem am_w_at {ad : Nat → Nat} {tc : Nat → ClassId} {w : List am_C} {k : Nat} {c : am_C} (h : w[k]? = some c) : (am_w ad tc w)[k]? = some (ad k, am_c ad tc c) := by
  simp [am_w, h]
theorem am_w_of {ad : Nat → Nat} {tc : Nat → ClassId} {w : List am_C} {k : Nat} {q : Nat × va_E} (h : (am_w ad tc w)[k]? = some q) : ∃ c, w[k]? = some c ∧ q = (ad k, am_c ad tc c) := by
  simp only [am_w, List.getElem?_mapIdx] at h
  cases hc : w[k]? with
  | none => rw [hc] at h; cases h
  | some c => rw [hc] at h; exact ⟨c, rfl, (Option.some.inj h).symm⟩
theorem am_w_set (ad : Nat → Nat) (tc : Nat → ClassId) (w : List am_C) (k : Nat) (c : am_C) : am_w ad tc (w.set k c) = (am_w ad tc w).set k (ad k, am_c ad tc c) := by
  apply List.ext_getElem?
  intro i
  simp only [am_w, List.getElem?_mapIdx, List.getElem?_set, List.length_mapIdx]
  by_cases h : k = i
  · subst h
    by_cases h2 : k < w.length
    · simp [h2]
    · simp [h2]
  · simp [h]
theorem am_w_app (ad : Nat → Nat) (tc : Nat → ClassId) (w : List am_C) (c : am_C) : am_w ad tc (w ++ [c]) = am_w ad tc w ++ [(ad w.length, am_c ad tc c)] := by
  simp [am_w, List.mapIdx_append]
/-! locals: a list by places -/
def am_l (ad : Nat → Nat) : Nat → List (Option am_V) → List (Nat × Value)
  | _, [] => []
  | k, none :: r => am_l ad (k + 1) r
  | k, some v :: r => (k, am_v ad v) :: am_l ad (k + 1) r
theorem am_l_mem (ad : Nat → Nat) : ∀ (lv : List (Option am_V)) (k : Nat) (q : Nat × Value), q ∈ am_l ad k lv ↔ ∃ (i : Nat) (v : am_V), lv[i]? = some (some v) ∧ q = (k + i, am_v ad v) := by
  intro lv
  induction lv with
  | nil => intro k q; simp [am_l]
  | cons o r ih =>
    intro k q
    cases o with
    | none =>
      rw [am_l, ih]
      constructor
      · rintro ⟨i, v, h, e⟩
        exact ⟨i + 1, v, by simpa using h, by rw [e]; congr 1; omega⟩
      · rintro ⟨i, v, h, e⟩
        cases i with
        | zero => simp at h
        | succ i => exact ⟨i, v, by simpa using h, by rw [e]; congr 1; omega⟩
    | some x =>
      rw [am_l, List.mem_cons, ih]
      constructor
      · rintro (e | ⟨i, v, h, e⟩)
        · exact ⟨0, x, rfl, by rw [e]; rfl⟩
        · exact ⟨i + 1, v, by simpa using h, by rw [e]; congr 1; omega⟩
      · rintro ⟨i, v, h, e⟩
        cases i with
        | zero => simp at h; subst h; exact Or.inl e
        | succ i => exact Or.inr ⟨i, v, by simpa using h, by rw [e]; congr 1; omega⟩
theorem am_get {ad : Nat → Nat} {ls : Array Slot} {nL k : Nat} {lv : List (Option am_V)} {v : am_V} (h : lv_has ls nL (am_l ad 0 lv)) (hk : lv[k]? = some (some v)) : ls[k]? = some (.val (am_v ad v)) :=
  h.2.2 (k, am_v ad v) ((am_l_mem ad lv 0 _).mpr ⟨k, v, hk, by simp⟩)
theorem am_less {ad : Nat → Nat} {ls : Array Slot} {nL : Nat} {l : List (Nat × Value)} {lv : List (Option am_V)} (h : lv_has ls nL l) (hs : ∀ (i : Nat) (v : am_V), lv[i]? = some (some v) → (i, am_v ad v) ∈ l) : lv_has ls nL (am_l ad 0 lv) :=
  ⟨h.1, h.2.1, fun q hq => by
    obtain ⟨i, v, hi, rfl⟩ := (am_l_mem ad lv 0 q).mp hq
    have := h.2.2 _ (hs i v hi)
    simpa using this⟩
def am_kl (lv : List (Option am_V)) : Nat → List (Option am_V)
  | 0 => lv
  | j + 1 => match lv[j]? with
    | some (some (.inr (.inl _))) => lv.set j none
    | _ => lv
theorem am_kl_at {lv : List (Option am_V)} {i j : Nat} {x : am_V} (h : (am_kl lv i)[j]? = some (some x)) : lv[j]? = some (some x) ∧ (j + 1 = i → ∀ y, x ≠ .inr (.inl y)) := by
  cases i with
  | zero => exact ⟨h, fun q => absurd q (by omega)⟩
  | succ k =>
    simp only [am_kl] at h
    split at h
    · next y hy =>
      by_cases hj : j = k
      · subst hj
        have hlt : j < lv.length := (List.getElem?_eq_some_iff.mp hy).1
        rw [List.getElem?_set_self hlt] at h
        cases h
      · rw [List.getElem?_set_ne (fun q => hj q.symm)] at h
        exact ⟨h, fun q => absurd q (by omega)⟩
    · next hn =>
      refine ⟨h, fun q y hx => ?_⟩
      have e : j = k := by omega
      subst e
      subst hx
      exact hn y h
def am_s1 (lv : List (Option am_V)) (i : Nat) (v : am_V) : List (Option am_V) := (am_kl lv i).set i (some v)
def am_s2 (lv : List (Option am_V)) (i : Nat) (v : am_V) : List (Option am_V) := ((am_kl lv i).set i (some v)).set (i + 1) none
theorem am_cat {ad : Nat → Nat} {x : am_V} (h : (am_v ad x).category = 2) : ∃ y, x = .inr (.inl y) := by
  rcases x with x | x | _ | k
  · simp [am_v, Value.category] at h
  · exact ⟨x, rfl⟩
  · simp [am_v, Value.category] at h
  · simp [am_v, Value.category] at h
theorem am_put1 {ad : Nat → Nat} {ls : Array Slot} {nL i : Nat} {lv : List (Option am_V)} {v : am_V} (h : lv_has ls nL ((i, am_v ad v) :: (am_l ad 0 lv).filter (fun q => !(q.1 == i) && !(q.1 + 1 == i && q.2.category == 2)))) : lv_has ls nL (am_l ad 0 (am_s1 lv i v)) := by
  refine am_less h fun j x hj => ?_
  by_cases e : j = i
  · subst e
    unfold am_s1 at hj
    have hlt : j < (am_kl lv j).length := by
      have := (List.getElem?_eq_some_iff.mp hj).1
      simpa using this
    rw [List.getElem?_set_self hlt] at hj
    cases hj
    exact List.mem_cons_self
  · unfold am_s1 at hj
    rw [List.getElem?_set_ne (fun q => e q.symm)] at hj
    obtain ⟨h1, h2⟩ := am_kl_at hj
    refine List.mem_cons_of_mem _ (List.mem_filter.mpr ⟨(am_l_mem ad lv 0 _).mpr ⟨j, x, h1, by simp⟩, ?_⟩)
    have hc : ¬ (j + 1 = i ∧ (am_v ad x).category = 2) := fun ⟨q1, q2⟩ => by
      obtain ⟨y, hy⟩ := am_cat q2
      exact h2 q1 y hy
    simp only [Bool.and_eq_true, Bool.not_eq_true', beq_eq_false_iff_ne, Bool.and_eq_false_iff]
    refine ⟨e, ?_⟩
    by_cases q1 : j + 1 = i
    · exact Or.inr (fun q2 => hc ⟨q1, q2⟩)
    · exact Or.inl q1
theorem am_put2 {ad : Nat → Nat} {ls : Array Slot} {nL i : Nat} {lv : List (Option am_V)} {v : am_V} (h : lv_has ls nL ((i, am_v ad v) :: (am_l ad 0 lv).filter (fun q => !(q.1 == i) && (!(q.1 == i + 1) && !(q.1 + 1 == i && q.2.category == 2))))) : lv_has ls nL (am_l ad 0 (am_s2 lv i v)) := by
  refine am_less h fun j x hj => ?_
  unfold am_s2 at hj
  by_cases e0 : j = i + 1
  · subst e0
    have hlt : i + 1 < ((am_kl lv i).set i (some v)).length := by
      have := (List.getElem?_eq_some_iff.mp hj).1
      simpa using this
    rw [List.getElem?_set_self hlt] at hj
    cases hj
  rw [List.getElem?_set_ne (fun q => e0 q.symm)] at hj
  by_cases e : j = i
  · subst e
    have hlt : j < (am_kl lv j).length := by
      have := (List.getElem?_eq_some_iff.mp hj).1
      simpa using this
    rw [List.getElem?_set_self hlt] at hj
    cases hj
    exact List.mem_cons_self
  · rw [List.getElem?_set_ne (fun q => e q.symm)] at hj
    obtain ⟨h1, h2⟩ := am_kl_at hj
    refine List.mem_cons_of_mem _ (List.mem_filter.mpr ⟨(am_l_mem ad lv 0 _).mpr ⟨j, x, h1, by simp⟩, ?_⟩)
    have hc : ¬ (j + 1 = i ∧ (am_v ad x).category = 2) := fun ⟨q1, q2⟩ => by
      obtain ⟨y, hy⟩ := am_cat q2
      exact h2 q1 y hy
    simp only [Bool.and_eq_true, Bool.not_eq_true', beq_eq_false_iff_ne, Bool.and_eq_false_iff]
    refine ⟨e, e0, ?_⟩
    by_cases q1 : j + 1 = i
    · exact Or.inr (fun q2 => hc ⟨q1, q2⟩)
    · exact Or.inl q1
/-- the locals at a method's entry -/
def am_ea : List am_V → List (Option am_V)
  | [] => []
  | .inr (.inl x) :: r => some (.inr (.inl x)) :: none :: am_ea r
  | .inl x :: r => some (.inl x) :: am_ea r
  | .inr (.inr x) :: r => some (.inr (.inr x)) :: am_ea r
def am_en (av : List am_V) (n : Nat) : List (Option am_V) := am_ea av ++ List.replicate (n - (am_ea av).length) none
theorem am_l_none (ad : Nat → Nat) : ∀ (n k : Nat), am_l ad k (List.replicate n none) = [] := by
  intro n
  induction n with
  | zero => intro k; rfl
  | succ n ih => intro k; rw [List.replicate_succ, am_l, ih]
theorem am_en_l (ad : Nat → Nat) (n : Nat) : ∀ (av : List am_V) (k : Nat), am_l ad k (am_ea av ++ List.replicate n none) = lv_args k (av.map (am_v ad)) := by
  intro av
  induction av with
  | nil => intro k; simp only [am_ea, List.nil_append, List.map_nil, lv_args]; exact am_l_none ad n k
  | cons v r ih =>
    intro k
    rcases v with x | x | x
    · simp only [am_ea, List.cons_append, am_l, List.map_cons, lv_args]
      rw [ih]
      rfl
    · simp only [am_ea, List.cons_append, am_l, List.map_cons, lv_args]
      rw [ih]
      rfl
    · simp only [am_ea, List.cons_append, am_l, List.map_cons, lv_args]
      rw [ih]
      cases x <;> rfl
theorem am_ea_len (ad : Nat → Nat) : ∀ (av : List am_V), (lg_sl (av.map (am_v ad))).length = (am_ea av).length := by
  intro av
  induction av with
  | nil => rfl
  | cons v r ih =>
    have e : ∀ (a : Value) (q : List Value), lg_sl (a :: q) = (if a.category = 2 then [.val a, .second] else [.val a]) ++ lg_sl q := fun a q => rfl
    rw [List.map_cons, e]
    rcases v with x | x | _ | x
    · simp [am_ea, ih, am_v, Value.category]
    · simp [am_ea, ih, am_v, Value.category]
    · simp [am_ea, ih, am_v, Value.category]
    · simp [am_ea, ih, am_v, Value.category]
theorem am_entry (ad : Nat → Nat) (av : List am_V) {n : Nat} (h : (am_ea av).length ≤ n) : lv_has ((lg_sl (av.map (am_v ad)) ++ List.replicate (n - (lg_sl (av.map (am_v ad))).length) Slot.unset).toArray) n (am_l ad 0 (am_en av n)) := by
  have h1 := lv_entry (av.map (am_v ad)) (n := n) (by rw [am_ea_len]; exact h)
  unfold am_en
  rw [am_en_l]
  exact h1
def am_kls (lv : List (Option am_V)) : List Nat → List (Option am_V)
  | [] => lv
  | i :: r => (am_kls lv r).set i none
theorem am_kls_at {lv : List (Option am_V)} : ∀ {r : List Nat} {j : Nat} {x : am_V}, (am_kls lv r)[j]? = some (some x) → lv[j]? = some (some x) := by
  intro r
  induction r with
  | nil => intro j x h; exact h
  | cons i r ih =>
    intro j x h
    unfold am_kls at h
    by_cases e : j = i
    · subst e
      rw [List.getElem?_set] at h
      simp at h
    · rw [List.getElem?_set_ne (fun q => e q.symm)] at h
      exact ih h
/-! the context: machine, method, world's tables, what it may change, whose addresses, how much it may make -/
abbrev am_X : Type := Program × Launch × Env × Room × State × MethodId × Array Value × List Frame × Method × Code × (State → Prop) × va_G × (Nat → ClassId) × (Nat → Prop) × ((Nat → Nat) → Prop) × Nat × Nat × Nat
def AW (X : am_X) (pc : Nat) (lv : List (Option am_V)) (stk : List am_V) (w : List am_C) (bc bs : Nat) : Prop := match X with
  | (p, l, e, R, s, m, args, below, meth, c, Q, D, tc, A, G, mc, ms, nL) =>
    ∀ (ad : Nat → Nat) (H : Heap) (locs : List Loc) (cells slots : Nat) (ls : Array Slot), G ad → va_P D classes (am_w ad tc w) H → va_D A (am_w ad tc w) → va_S A s.heap H locs → lv_has ls nL (am_l ad 0 lv) → cells + bc ≤ mc → slots + bs ≤ ms →
      W p l e R s m args below meth c H locs cells slots Q (F0 m pc ls (stk.map (am_v ad)))
def am_ok (X : am_X) (cc : ByteArray) (own : String) (nl dd : Nat) : Prop := match X with
  | (p, l, e, R, s, m, args, below, meth, c, Q, D, tc, A, G, mc, ms, nL) =>
    p.tables.exec = Jvm.exec ∧ c.code = cc ∧ (c.maxLocals = nL ∧ nL = nl) ∧ s.vm.findClass own = some m.cls ∧ (∀ w ∈ am_T, w.before args s = true) ∧ va_K D classes (am_tys tc) s ∧ mc ≤ R.cells ∧ ms ≤ R.slots ∧ (∀ q, s.heap.size ≤ q → A q) ∧ meth.locks = false ∧ am_F A s ∧ dd ≤ R.frames ∧ 40 * dd ≤ R.locals ∧ l.stackTraces = false
section AM
variable {X : am_X} {cc : ByteArray} {own : String} {nl dd pc n bc bs : Nat} {lv : List (Option am_V)} {r : List am_V} {w : List am_C}
theorem aw_less (ks : List Nat) {lv' : List (Option am_V)} (h : am_kls lv ks = lv') (k : AW X pc lv' r w bc bs) : AW X pc lv r w bc bs := by
  obtain ⟨p, l, e, R, s, m, args, below, meth, c, Q, D, tc, A, G, mc, ms, nL⟩ := X
  subst h
  intro ad H locs cells slots ls hG hP hD hS hl hc hs
  exact k ad H locs cells slots ls hG hP hD hS (am_less hl fun i v hi => (am_l_mem ad lv 0 _).mpr ⟨i, v, am_kls_at hi, by simp⟩) hc hs
theorem aw_bud {bc' bs' : Nat} (h1 : bc' ≤ bc) (h2 : bs' ≤ bs) (k : AW X pc lv r w bc' bs') : AW X pc lv r w bc bs := by
  obtain ⟨p, l, e, R, s, m, args, below, meth, c, Q, D, tc, A, G, mc, ms, nL⟩ := X
  intro ad H locs cells slots ls hG hP hD hS hl hc hs
  exact k ad H locs cells slots ls hG hP hD hS hl (by omega) (by omega)

theorem aw_iadd (K : am_ok X cc own nl dd) {x y : Int32} (d : decode cc pc = .ok (.iadd, 1)) (hn : pc + 1 = n) 
    (k : AW X n lv (aI (x + y) :: r) w bc bs) : AW X pc lv (aI y :: aI x :: r) w bc bs := by
  obtain ⟨p, l, e, R, s, m, args, below, meth, c, Q, D, tc, A, G, mc, ms, nL⟩ := X
  obtain ⟨hx, hb, ⟨hml, rfl⟩, hown, hts, hK, hmc, hms, hA, hlk, hF, hfr, hlo, htr⟩ := K
  subst hn
  intro ad H locs cells slots ls hG hP hD hS hl hc hs
  exact lv_iadd hx hb d (k ad H locs cells slots ls hG hP hD hS hl hc hs)
theorem aw_isub (K : am_ok X cc own nl dd) {x y : Int32} (d : decode cc pc = .ok (.isub, 1)) (hn : pc + 1 = n) 
    (k : AW X n lv (aI (x - y) :: r) w bc bs) : AW X pc lv (aI y :: aI x :: r) w bc bs := by
  obtain ⟨p, l, e, R, s, m, args, below, meth, c, Q, D, tc, A, G, mc, ms, nL⟩ := X
  obtain ⟨hx, hb, ⟨hml, rfl⟩, hown, hts, hK, hmc, hms, hA, hlk, hF, hfr, hlo, htr⟩ := K
  subst hn
  intro ad H locs cells slots ls hG hP hD hS hl hc hs
  exact lv_isub hx hb d (k ad H locs cells slots ls hG hP hD hS hl hc hs)
theorem aw_imul (K : am_ok X cc own nl dd) {x y : Int32} (d : decode cc pc = .ok (.imul, 1)) (hn : pc + 1 = n) 
    (k : AW X n lv (aI (x * y) :: r) w bc bs) : AW X pc lv (aI y :: aI x :: r) w bc bs := by
  obtain ⟨p, l, e, R, s, m, args, below, meth, c, Q, D, tc, A, G, mc, ms, nL⟩ := X
  obtain ⟨hx, hb, ⟨hml, rfl⟩, hown, hts, hK, hmc, hms, hA, hlk, hF, hfr, hlo, htr⟩ := K
  subst hn
  intro ad H locs cells slots ls hG hP hD hS hl hc hs
  exact lv_imul hx hb d (k ad H locs cells slots ls hG hP hD hS hl hc hs)
theorem aw_iand (K : am_ok X cc own nl dd) {x y : Int32} (d : decode cc pc = .ok (.iand, 1)) (hn : pc + 1 = n) 
    (k : AW X n lv (aI (x &&& y) :: r) w bc bs) : AW X pc lv (aI y :: aI x :: r) w bc bs := by
  obtain ⟨p, l, e, R, s, m, args, below, meth, c, Q, D, tc, A, G, mc, ms, nL⟩ := X
  obtain ⟨hx, hb, ⟨hml, rfl⟩, hown, hts, hK, hmc, hms, hA, hlk, hF, hfr, hlo, htr⟩ := K
  subst hn
  intro ad H locs cells slots ls hG hP hD hS hl hc hs
  exact lv_iand hx hb d (k ad H locs cells slots ls hG hP hD hS hl hc hs)
theorem aw_ior (K : am_ok X cc own nl dd) {x y : Int32} (d : decode cc pc = .ok (.ior, 1)) (hn : pc + 1 = n) 
    (k : AW X n lv (aI (x ||| y) :: r) w bc bs) : AW X pc lv (aI y :: aI x :: r) w bc bs := by
  obtain ⟨p, l, e, R, s, m, args, below, meth, c, Q, D, tc, A, G, mc, ms, nL⟩ := X
  obtain ⟨hx, hb, ⟨hml, rfl⟩, hown, hts, hK, hmc, hms, hA, hlk, hF, hfr, hlo, htr⟩ := K
  subst hn
  intro ad H locs cells slots ls hG hP hD hS hl hc hs
  exact lv_ior hx hb d (k ad H locs cells slots ls hG hP hD hS hl hc hs)
theorem aw_ixor (K : am_ok X cc own nl dd) {x y : Int32} (d : decode cc pc = .ok (.ixor, 1)) (hn : pc + 1 = n) 
    (k : AW X n lv (aI (x ^^^ y) :: r) w bc bs) : AW X pc lv (aI y :: aI x :: r) w bc bs := by
  obtain ⟨p, l, e, R, s, m, args, below, meth, c, Q, D, tc, A, G, mc, ms, nL⟩ := X
  obtain ⟨hx, hb, ⟨hml, rfl⟩, hown, hts, hK, hmc, hms, hA, hlk, hF, hfr, hlo, htr⟩ := K
  subst hn
  intro ad H locs cells slots ls hG hP hD hS hl hc hs
  exact lv_ixor hx hb d (k ad H locs cells slots ls hG hP hD hS hl hc hs)
theorem aw_ishl (K : am_ok X cc own nl dd) {x y : Int32} (d : decode cc pc = .ok (.ishl, 1)) (hn : pc + 1 = n) 
    (k : AW X n lv (aI (x <<< (y &&& 31)) :: r) w bc bs) : AW X pc lv (aI y :: aI x :: r) w bc bs := by
  obtain ⟨p, l, e, R, s, m, args, below, meth, c, Q, D, tc, A, G, mc, ms, nL⟩ := X
  obtain ⟨hx, hb, ⟨hml, rfl⟩, hown, hts, hK, hmc, hms, hA, hlk, hF, hfr, hlo, htr⟩ := K
  subst hn
  intro ad H locs cells slots ls hG hP hD hS hl hc hs
  exact lv_ishl hx hb d (k ad H locs cells slots ls hG hP hD hS hl hc hs)
theorem aw_ishr (K : am_ok X cc own nl dd) {x y : Int32} (d : decode cc pc = .ok (.ishr, 1)) (hn : pc + 1 = n) 
    (k : AW X n lv (aI (x >>> (y &&& 31)) :: r) w bc bs) : AW X pc lv (aI y :: aI x :: r) w bc bs := by
  obtain ⟨p, l, e, R, s, m, args, below, meth, c, Q, D, tc, A, G, mc, ms, nL⟩ := X
  obtain ⟨hx, hb, ⟨hml, rfl⟩, hown, hts, hK, hmc, hms, hA, hlk, hF, hfr, hlo, htr⟩ := K
  subst hn
  intro ad H locs cells slots ls hG hP hD hS hl hc hs
  exact lv_ishr hx hb d (k ad H locs cells slots ls hG hP hD hS hl hc hs)
theorem aw_idiv (K : am_ok X cc own nl dd) {x y : Int32} (d : decode cc pc = .ok (.idiv, 1)) (hn : pc + 1 = n) (h0 : ¬ y = 0)
    (k : AW X n lv (aI (x / y) :: r) w bc bs) : AW X pc lv (aI y :: aI x :: r) w bc bs := by
  obtain ⟨p, l, e, R, s, m, args, below, meth, c, Q, D, tc, A, G, mc, ms, nL⟩ := X
  obtain ⟨hx, hb, ⟨hml, rfl⟩, hown, hts, hK, hmc, hms, hA, hlk, hF, hfr, hlo, htr⟩ := K
  subst hn
  intro ad H locs cells slots ls hG hP hD hS hl hc hs
  exact lv_idiv hx hb d h0 (k ad H locs cells slots ls hG hP hD hS hl hc hs)
theorem aw_irem (K : am_ok X cc own nl dd) {x y : Int32} (d : decode cc pc = .ok (.irem, 1)) (hn : pc + 1 = n) (h0 : ¬ y = 0)
    (k : AW X n lv (aI (x - x / y * y) :: r) w bc bs) : AW X pc lv (aI y :: aI x :: r) w bc bs := by
  obtain ⟨p, l, e, R, s, m, args, below, meth, c, Q, D, tc, A, G, mc, ms, nL⟩ := X
  obtain ⟨hx, hb, ⟨hml, rfl⟩, hown, hts, hK, hmc, hms, hA, hlk, hF, hfr, hlo, htr⟩ := K
  subst hn
  intro ad H locs cells slots ls hG hP hD hS hl hc hs
  exact lv_irem hx hb d h0 (k ad H locs cells slots ls hG hP hD hS hl hc hs)
theorem aw_ineg (K : am_ok X cc own nl dd) {x : Int32} (d : decode cc pc = .ok (.ineg, 1)) (hn : pc + 1 = n) 
    (k : AW X n lv (aI (-x) :: r) w bc bs) : AW X pc lv (aI x :: r) w bc bs := by
  obtain ⟨p, l, e, R, s, m, args, below, meth, c, Q, D, tc, A, G, mc, ms, nL⟩ := X
  obtain ⟨hx, hb, ⟨hml, rfl⟩, hown, hts, hK, hmc, hms, hA, hlk, hF, hfr, hlo, htr⟩ := K
  subst hn
  intro ad H locs cells slots ls hG hP hD hS hl hc hs
  exact lv_ineg hx hb d (k ad H locs cells slots ls hG hP hD hS hl hc hs)
theorem aw_iushr (K : am_ok X cc own nl dd) {x y : Int32} (d : decode cc pc = .ok (.iushr, 1)) (hn : pc + 1 = n) 
    (k : AW X n lv (aI (x.toUInt32 >>> (y.toUInt32 &&& Int32.toUInt32 31)).toInt32 :: r) w bc bs) : AW X pc lv (aI y :: aI x :: r) w bc bs := by
  obtain ⟨p, l, e, R, s, m, args, below, meth, c, Q, D, tc, A, G, mc, ms, nL⟩ := X
  obtain ⟨hx, hb, ⟨hml, rfl⟩, hown, hts, hK, hmc, hms, hA, hlk, hF, hfr, hlo, htr⟩ := K
  subst hn
  intro ad H locs cells slots ls hG hP hD hS hl hc hs
  exact lv_iushr hx hb d rfl (k ad H locs cells slots ls hG hP hD hS hl hc hs)
theorem aw_ladd (K : am_ok X cc own nl dd) {x y : Int64} (d : decode cc pc = .ok (.ladd, 1)) (hn : pc + 1 = n) 
    (k : AW X n lv (aL (x + y) :: r) w bc bs) : AW X pc lv (aL y :: aL x :: r) w bc bs := by
  obtain ⟨p, l, e, R, s, m, args, below, meth, c, Q, D, tc, A, G, mc, ms, nL⟩ := X
  obtain ⟨hx, hb, ⟨hml, rfl⟩, hown, hts, hK, hmc, hms, hA, hlk, hF, hfr, hlo, htr⟩ := K
  subst hn
  intro ad H locs cells slots ls hG hP hD hS hl hc hs
  exact lv_ladd hx hb d (k ad H locs cells slots ls hG hP hD hS hl hc hs)
theorem aw_lsub (K : am_ok X cc own nl dd) {x y : Int64} (d : decode cc pc = .ok (.lsub, 1)) (hn : pc + 1 = n) 
    (k : AW X n lv (aL (x - y) :: r) w bc bs) : AW X pc lv (aL y :: aL x :: r) w bc bs := by
  obtain ⟨p, l, e, R, s, m, args, below, meth, c, Q, D, tc, A, G, mc, ms, nL⟩ := X
  obtain ⟨hx, hb, ⟨hml, rfl⟩, hown, hts, hK, hmc, hms, hA, hlk, hF, hfr, hlo, htr⟩ := K
  subst hn
  intro ad H locs cells slots ls hG hP hD hS hl hc hs
  exact lv_lsub hx hb d (k ad H locs cells slots ls hG hP hD hS hl hc hs)
theorem aw_lmul (K : am_ok X cc own nl dd) {x y : Int64} (d : decode cc pc = .ok (.lmul, 1)) (hn : pc + 1 = n) 
    (k : AW X n lv (aL (x * y) :: r) w bc bs) : AW X pc lv (aL y :: aL x :: r) w bc bs := by
  obtain ⟨p, l, e, R, s, m, args, below, meth, c, Q, D, tc, A, G, mc, ms, nL⟩ := X
  obtain ⟨hx, hb, ⟨hml, rfl⟩, hown, hts, hK, hmc, hms, hA, hlk, hF, hfr, hlo, htr⟩ := K
  subst hn
  intro ad H locs cells slots ls hG hP hD hS hl hc hs
  exact lv_lmul hx hb d (k ad H locs cells slots ls hG hP hD hS hl hc hs)
theorem aw_land (K : am_ok X cc own nl dd) {x y : Int64} (d : decode cc pc = .ok (.land, 1)) (hn : pc + 1 = n) 
    (k : AW X n lv (aL (x &&& y) :: r) w bc bs) : AW X pc lv (aL y :: aL x :: r) w bc bs := by
  obtain ⟨p, l, e, R, s, m, args, below, meth, c, Q, D, tc, A, G, mc, ms, nL⟩ := X
  obtain ⟨hx, hb, ⟨hml, rfl⟩, hown, hts, hK, hmc, hms, hA, hlk, hF, hfr, hlo, htr⟩ := K
  subst hn
  intro ad H locs cells slots ls hG hP hD hS hl hc hs
  exact lv_land hx hb d (k ad H locs cells slots ls hG hP hD hS hl hc hs)
theorem aw_lor (K : am_ok X cc own nl dd) {x y : Int64} (d : decode cc pc = .ok (.lor, 1)) (hn : pc + 1 = n) 
    (k : AW X n lv (aL (x ||| y) :: r) w bc bs) : AW X pc lv (aL y :: aL x :: r) w bc bs := by
  obtain ⟨p, l, e, R, s, m, args, below, meth, c, Q, D, tc, A, G, mc, ms, nL⟩ := X
  obtain ⟨hx, hb, ⟨hml, rfl⟩, hown, hts, hK, hmc, hms, hA, hlk, hF, hfr, hlo, htr⟩ := K
  subst hn
  intro ad H locs cells slots ls hG hP hD hS hl hc hs
  exact lv_lor hx hb d (k ad H locs cells slots ls hG hP hD hS hl hc hs)
theorem aw_lxor (K : am_ok X cc own nl dd) {x y : Int64} (d : decode cc pc = .ok (.lxor, 1)) (hn : pc + 1 = n) 
    (k : AW X n lv (aL (x ^^^ y) :: r) w bc bs) : AW X pc lv (aL y :: aL x :: r) w bc bs := by
  obtain ⟨p, l, e, R, s, m, args, below, meth, c, Q, D, tc, A, G, mc, ms, nL⟩ := X
  obtain ⟨hx, hb, ⟨hml, rfl⟩, hown, hts, hK, hmc, hms, hA, hlk, hF, hfr, hlo, htr⟩ := K
  subst hn
  intro ad H locs cells slots ls hG hP hD hS hl hc hs
  exact lv_lxor hx hb d (k ad H locs cells slots ls hG hP hD hS hl hc hs)
theorem aw_lshl (K : am_ok X cc own nl dd) {x : Int64} {y : Int32} (d : decode cc pc = .ok (.lshl, 1)) (hn : pc + 1 = n) 
    (k : AW X n lv (aL (x <<< (y.toInt64 &&& 63)) :: r) w bc bs) : AW X pc lv (aI y :: aL x :: r) w bc bs := by
  obtain ⟨p, l, e, R, s, m, args, below, meth, c, Q, D, tc, A, G, mc, ms, nL⟩ := X
  obtain ⟨hx, hb, ⟨hml, rfl⟩, hown, hts, hK, hmc, hms, hA, hlk, hF, hfr, hlo, htr⟩ := K
  subst hn
  intro ad H locs cells slots ls hG hP hD hS hl hc hs
  exact lv_lshl hx hb d rfl (k ad H locs cells slots ls hG hP hD hS hl hc hs)
theorem aw_lshr (K : am_ok X cc own nl dd) {x : Int64} {y : Int32} (d : decode cc pc = .ok (.lshr, 1)) (hn : pc + 1 = n) 
    (k : AW X n lv (aL (x >>> (y.toInt64 &&& 63)) :: r) w bc bs) : AW X pc lv (aI y :: aL x :: r) w bc bs := by
  obtain ⟨p, l, e, R, s, m, args, below, meth, c, Q, D, tc, A, G, mc, ms, nL⟩ := X
  obtain ⟨hx, hb, ⟨hml, rfl⟩, hown, hts, hK, hmc, hms, hA, hlk, hF, hfr, hlo, htr⟩ := K
  subst hn
  intro ad H locs cells slots ls hG hP hD hS hl hc hs
  exact lv_lshr hx hb d rfl (k ad H locs cells slots ls hG hP hD hS hl hc hs)
theorem aw_lushr (K : am_ok X cc own nl dd) {x : Int64} {y : Int32} (d : decode cc pc = .ok (.lushr, 1)) (hn : pc + 1 = n) 
    (k : AW X n lv (aL (x.toUInt64 >>> (y.toInt64.toUInt64 &&& Int64.toUInt64 63)).toInt64 :: r) w bc bs) : AW X pc lv (aI y :: aL x :: r) w bc bs := by
  obtain ⟨p, l, e, R, s, m, args, below, meth, c, Q, D, tc, A, G, mc, ms, nL⟩ := X
  obtain ⟨hx, hb, ⟨hml, rfl⟩, hown, hts, hK, hmc, hms, hA, hlk, hF, hfr, hlo, htr⟩ := K
  subst hn
  intro ad H locs cells slots ls hG hP hD hS hl hc hs
  exact lv_lushr hx hb d rfl (k ad H locs cells slots ls hG hP hD hS hl hc hs)
theorem aw_lcmp (K : am_ok X cc own nl dd) {x y : Int64} (d : decode cc pc = .ok (.lcmp, 1)) (hn : pc + 1 = n) 
    (k : AW X n lv (aI (lg_cmp x y) :: r) w bc bs) : AW X pc lv (aL y :: aL x :: r) w bc bs := by
  obtain ⟨p, l, e, R, s, m, args, below, meth, c, Q, D, tc, A, G, mc, ms, nL⟩ := X
  obtain ⟨hx, hb, ⟨hml, rfl⟩, hown, hts, hK, hmc, hms, hA, hlk, hF, hfr, hlo, htr⟩ := K
  subst hn
  intro ad H locs cells slots ls hG hP hD hS hl hc hs
  exact W.lcmp hx hb d (k ad H locs cells slots ls hG hP hD hS hl hc hs)
theorem aw_i2l (K : am_ok X cc own nl dd) {x : Int32} (d : decode cc pc = .ok (.i2l, 1)) (hn : pc + 1 = n) 
    (k : AW X n lv (aL x.toInt64 :: r) w bc bs) : AW X pc lv (aI x :: r) w bc bs := by
  obtain ⟨p, l, e, R, s, m, args, below, meth, c, Q, D, tc, A, G, mc, ms, nL⟩ := X
  obtain ⟨hx, hb, ⟨hml, rfl⟩, hown, hts, hK, hmc, hms, hA, hlk, hF, hfr, hlo, htr⟩ := K
  subst hn
  intro ad H locs cells slots ls hG hP hD hS hl hc hs
  exact lv_i2l hx hb d rfl (k ad H locs cells slots ls hG hP hD hS hl hc hs)
theorem aw_l2i (K : am_ok X cc own nl dd) {x : Int64} (d : decode cc pc = .ok (.l2i, 1)) (hn : pc + 1 = n) 
    (k : AW X n lv (aI x.toInt32 :: r) w bc bs) : AW X pc lv (aL x :: r) w bc bs := by
  obtain ⟨p, l, e, R, s, m, args, below, meth, c, Q, D, tc, A, G, mc, ms, nL⟩ := X
  obtain ⟨hx, hb, ⟨hml, rfl⟩, hown, hts, hK, hmc, hms, hA, hlk, hF, hfr, hlo, htr⟩ := K
  subst hn
  intro ad H locs cells slots ls hG hP hD hS hl hc hs
  exact lv_l2i hx hb d rfl (k ad H locs cells slots ls hG hP hD hS hl hc hs)
theorem aw_iconst (K : am_ok X cc own nl dd) {z : Int} {v : Int32} (d : decode cc pc = .ok (.iconst z, 1)) (hn : pc + 1 = n) (hv : Int32.ofInt z = v)
    (k : AW X n lv (aI v :: r) w bc bs) : AW X pc lv (r) w bc bs := by
  obtain ⟨p, l, e, R, s, m, args, below, meth, c, Q, D, tc, A, G, mc, ms, nL⟩ := X
  obtain ⟨hx, hb, ⟨hml, rfl⟩, hown, hts, hK, hmc, hms, hA, hlk, hF, hfr, hlo, htr⟩ := K
  subst hn
  intro ad H locs cells slots ls hG hP hD hS hl hc hs
  exact lv_iconst hx hb d hv (k ad H locs cells slots ls hG hP hD hS hl hc hs)
theorem aw_bipush (K : am_ok X cc own nl dd) {z : Int} {v : Int32} (d : decode cc pc = .ok (.bipush z, 2)) (hn : pc + 2 = n) (hv : (Int8.ofInt z).toInt32 = v)
    (k : AW X n lv (aI v :: r) w bc bs) : AW X pc lv (r) w bc bs := by
  obtain ⟨p, l, e, R, s, m, args, below, meth, c, Q, D, tc, A, G, mc, ms, nL⟩ := X
  obtain ⟨hx, hb, ⟨hml, rfl⟩, hown, hts, hK, hmc, hms, hA, hlk, hF, hfr, hlo, htr⟩ := K
  subst hn
  intro ad H locs cells slots ls hG hP hD hS hl hc hs
  exact lv_bipush hx hb d hv (k ad H locs cells slots ls hG hP hD hS hl hc hs)
theorem aw_sipush (K : am_ok X cc own nl dd) {z : Int} {v : Int32} (d : decode cc pc = .ok (.sipush z, 3)) (hn : pc + 3 = n) (hv : (Int16.ofInt z).toInt32 = v)
    (k : AW X n lv (aI v :: r) w bc bs) : AW X pc lv (r) w bc bs := by
  obtain ⟨p, l, e, R, s, m, args, below, meth, c, Q, D, tc, A, G, mc, ms, nL⟩ := X
  obtain ⟨hx, hb, ⟨hml, rfl⟩, hown, hts, hK, hmc, hms, hA, hlk, hF, hfr, hlo, htr⟩ := K
  subst hn
  intro ad H locs cells slots ls hG hP hD hS hl hc hs
  exact lv_sipush hx hb d hv (k ad H locs cells slots ls hG hP hD hS hl hc hs)
theorem aw_lconst (K : am_ok X cc own nl dd) {z : Fin 2} {v : Int64} (d : decode cc pc = .ok (.lconst z, 1)) (hn : pc + 1 = n) (hv : Int64.ofNat (z : Nat) = v)
    (k : AW X n lv (aL v :: r) w bc bs) : AW X pc lv (r) w bc bs := by
  obtain ⟨p, l, e, R, s, m, args, below, meth, c, Q, D, tc, A, G, mc, ms, nL⟩ := X
  obtain ⟨hx, hb, ⟨hml, rfl⟩, hown, hts, hK, hmc, hms, hA, hlk, hF, hfr, hlo, htr⟩ := K
  subst hn
  intro ad H locs cells slots ls hG hP hD hS hl hc hs
  exact lv_lconst hx hb d hv (k ad H locs cells slots ls hG hP hD hS hl hc hs)
theorem aw_ldc (K : am_ok X cc own nl dd) {idx : Nat} {v : Int32} (d : decode cc pc = .ok (.ldc idx, 2)) (hn : pc + 2 = n) (hv : Cond.constant own idx v ∈ am_T)
    (k : AW X n lv (aI v :: r) w bc bs) : AW X pc lv (r) w bc bs := by
  obtain ⟨p, l, e, R, s, m, args, below, meth, c, Q, D, tc, A, G, mc, ms, nL⟩ := X
  obtain ⟨hx, hb, ⟨hml, rfl⟩, hown, hts, hK, hmc, hms, hA, hlk, hF, hfr, hlo, htr⟩ := K
  subst hn
  intro ad H locs cells slots ls hG hP hD hS hl hc hs
  exact lv_ldc hx hb hown (hts _ hv) d (k ad H locs cells slots ls hG hP hD hS hl hc hs)
theorem aw_ldc2 (K : am_ok X cc own nl dd) {idx : Nat} {v : Int64} (d : decode cc pc = .ok (.ldc2_w idx, 3)) (hn : pc + 3 = n) (hv : Cond.constantLong own idx v ∈ am_T)
    (k : AW X n lv (aL v :: r) w bc bs) : AW X pc lv (r) w bc bs := by
  obtain ⟨p, l, e, R, s, m, args, below, meth, c, Q, D, tc, A, G, mc, ms, nL⟩ := X
  obtain ⟨hx, hb, ⟨hml, rfl⟩, hown, hts, hK, hmc, hms, hA, hlk, hF, hfr, hlo, htr⟩ := K
  subst hn
  intro ad H locs cells slots ls hG hP hD hS hl hc hs
  exact lv_ldc2 hx hb hown (hts _ hv) d (k ad H locs cells slots ls hG hP hD hS hl hc hs)
theorem aw_null (K : am_ok X cc own nl dd)  (d : decode cc pc = .ok (.aconst_null, 1)) (hn : pc + 1 = n) 
    (k : AW X n lv (aN :: r) w bc bs) : AW X pc lv (r) w bc bs := by
  obtain ⟨p, l, e, R, s, m, args, below, meth, c, Q, D, tc, A, G, mc, ms, nL⟩ := X
  obtain ⟨hx, hb, ⟨hml, rfl⟩, hown, hts, hK, hmc, hms, hA, hlk, hF, hfr, hlo, htr⟩ := K
  subst hn
  intro ad H locs cells slots ls hG hP hD hS hl hc hs
  exact lv_null hx hb d (k ad H locs cells slots ls hG hP hD hS hl hc hs)
theorem aw_iload_n (K : am_ok X cc own nl dd) {z : Fin 4} {x : Int32} (d : decode cc pc = .ok (.iload_n z, 1)) (hn : pc + 1 = n) (hv : lv[(z : Nat)]? = some (some (aI x)))
    (k : AW X n lv (aI x :: r) w bc bs) : AW X pc lv (r) w bc bs := by
  obtain ⟨p, l, e, R, s, m, args, below, meth, c, Q, D, tc, A, G, mc, ms, nL⟩ := X
  obtain ⟨hx, hb, ⟨hml, rfl⟩, hown, hts, hK, hmc, hms, hA, hlk, hF, hfr, hlo, htr⟩ := K
  subst hn
  intro ad H locs cells slots ls hG hP hD hS hl hc hs
  exact lv_iload_n hx hb d rfl (am_get hl hv) (k ad H locs cells slots ls hG hP hD hS hl hc hs)
theorem aw_iload (K : am_ok X cc own nl dd) {z : Nat} {x : Int32} (d : decode cc pc = .ok (.iload z, 2)) (hn : pc + 2 = n) (hv : lv[z]? = some (some (aI x)))
    (k : AW X n lv (aI x :: r) w bc bs) : AW X pc lv (r) w bc bs := by
  obtain ⟨p, l, e, R, s, m, args, below, meth, c, Q, D, tc, A, G, mc, ms, nL⟩ := X
  obtain ⟨hx, hb, ⟨hml, rfl⟩, hown, hts, hK, hmc, hms, hA, hlk, hF, hfr, hlo, htr⟩ := K
  subst hn
  intro ad H locs cells slots ls hG hP hD hS hl hc hs
  exact lv_iload hx hb d (am_get hl hv) (k ad H locs cells slots ls hG hP hD hS hl hc hs)
theorem aw_lload_n (K : am_ok X cc own nl dd) {z : Fin 4} {x : Int64} (d : decode cc pc = .ok (.lload_n z, 1)) (hn : pc + 1 = n) (hv : lv[(z : Nat)]? = some (some (aL x)))
    (k : AW X n lv (aL x :: r) w bc bs) : AW X pc lv (r) w bc bs := by
  obtain ⟨p, l, e, R, s, m, args, below, meth, c, Q, D, tc, A, G, mc, ms, nL⟩ := X
  obtain ⟨hx, hb, ⟨hml, rfl⟩, hown, hts, hK, hmc, hms, hA, hlk, hF, hfr, hlo, htr⟩ := K
  subst hn
  intro ad H locs cells slots ls hG hP hD hS hl hc hs
  exact lv_lload_n hx hb d rfl (am_get hl hv) (k ad H locs cells slots ls hG hP hD hS hl hc hs)
theorem aw_lload (K : am_ok X cc own nl dd) {z : Nat} {x : Int64} (d : decode cc pc = .ok (.lload z, 2)) (hn : pc + 2 = n) (hv : lv[z]? = some (some (aL x)))
    (k : AW X n lv (aL x :: r) w bc bs) : AW X pc lv (r) w bc bs := by
  obtain ⟨p, l, e, R, s, m, args, below, meth, c, Q, D, tc, A, G, mc, ms, nL⟩ := X
  obtain ⟨hx, hb, ⟨hml, rfl⟩, hown, hts, hK, hmc, hms, hA, hlk, hF, hfr, hlo, htr⟩ := K
  subst hn
  intro ad H locs cells slots ls hG hP hD hS hl hc hs
  exact lv_lload hx hb d (am_get hl hv) (k ad H locs cells slots ls hG hP hD hS hl hc hs)
theorem aw_aload_n (K : am_ok X cc own nl dd) {z : Fin 4} {x : Nat} (d : decode cc pc = .ok (.aload_n z, 1)) (hn : pc + 1 = n) (hv : lv[(z : Nat)]? = some (some (aR x)))
    (k : AW X n lv (aR x :: r) w bc bs) : AW X pc lv (r) w bc bs := by
  obtain ⟨p, l, e, R, s, m, args, below, meth, c, Q, D, tc, A, G, mc, ms, nL⟩ := X
  obtain ⟨hx, hb, ⟨hml, rfl⟩, hown, hts, hK, hmc, hms, hA, hlk, hF, hfr, hlo, htr⟩ := K
  subst hn
  intro ad H locs cells slots ls hG hP hD hS hl hc hs
  exact lv_aload_n hx hb d rfl (am_get hl hv) (k ad H locs cells slots ls hG hP hD hS hl hc hs)
theorem aw_aload (K : am_ok X cc own nl dd) {z : Nat} {x : Nat} (d : decode cc pc = .ok (.aload z, 2)) (hn : pc + 2 = n) (hv : lv[z]? = some (some (aR x)))
    (k : AW X n lv (aR x :: r) w bc bs) : AW X pc lv (r) w bc bs := by
  obtain ⟨p, l, e, R, s, m, args, below, meth, c, Q, D, tc, A, G, mc, ms, nL⟩ := X
  obtain ⟨hx, hb, ⟨hml, rfl⟩, hown, hts, hK, hmc, hms, hA, hlk, hF, hfr, hlo, htr⟩ := K
  subst hn
  intro ad H locs cells slots ls hG hP hD hS hl hc hs
  exact lv_aload hx hb d (am_get hl hv) (k ad H locs cells slots ls hG hP hD hS hl hc hs)
theorem am_c1 {ad : Nat → Nat} {v : am_V} (h : ∀ y, v ≠ .inr (.inl y)) : (am_v ad v).category = 1 := by
  rcases v with x | x | _ | x
  · rfl
  · exact absurd rfl (h x)
  · rfl
  · rfl
theorem aw_dup (K : am_ok X cc own nl dd) {a : am_V} (d : decode cc pc = .ok (.dup, 1)) (hn : pc + 1 = n) (ha : ∀ y, a ≠ .inr (.inl y))
    (k : AW X n lv (a :: a :: r) w bc bs) : AW X pc lv (a :: r) w bc bs := by
  obtain ⟨p, l, e, R, s, m, args, below, meth, c, Q, D, tc, A, G, mc, ms, nL⟩ := X
  obtain ⟨hx, hb, ⟨hml, rfl⟩, hown, hts, hK, hmc, hms, hA, hlk, hF, hfr, hlo, htr⟩ := K
  subst hn
  intro ad H locs cells slots ls hG hP hD hS hl hc hs
  exact lv_dup hx hb d (am_c1 ha) (k ad H locs cells slots ls hG hP hD hS hl hc hs)
theorem aw_pop (K : am_ok X cc own nl dd) {a : am_V} (d : decode cc pc = .ok (.pop, 1)) (hn : pc + 1 = n) (ha : ∀ y, a ≠ .inr (.inl y))
    (k : AW X n lv (r) w bc bs) : AW X pc lv (a :: r) w bc bs := by
  obtain ⟨p, l, e, R, s, m, args, below, meth, c, Q, D, tc, A, G, mc, ms, nL⟩ := X
  obtain ⟨hx, hb, ⟨hml, rfl⟩, hown, hts, hK, hmc, hms, hA, hlk, hF, hfr, hlo, htr⟩ := K
  subst hn
  intro ad H locs cells slots ls hG hP hD hS hl hc hs
  exact lv_pop hx hb d (am_c1 ha) (k ad H locs cells slots ls hG hP hD hS hl hc hs)
theorem aw_dup_x1 (K : am_ok X cc own nl dd) {a b : am_V} (d : decode cc pc = .ok (.dup_x1, 1)) (hn : pc + 1 = n) (ha : ∀ y, a ≠ .inr (.inl y)) (hb9 : ∀ y, b ≠ .inr (.inl y))
    (k : AW X n lv (a :: b :: a :: r) w bc bs) : AW X pc lv (a :: b :: r) w bc bs := by
  obtain ⟨p, l, e, R, s, m, args, below, meth, c, Q, D, tc, A, G, mc, ms, nL⟩ := X
  obtain ⟨hx, hb, ⟨hml, rfl⟩, hown, hts, hK, hmc, hms, hA, hlk, hF, hfr, hlo, htr⟩ := K
  subst hn
  intro ad H locs cells slots ls hG hP hD hS hl hc hs
  exact lv_dup_x1 hx hb d (am_c1 ha) (am_c1 hb9) (k ad H locs cells slots ls hG hP hD hS hl hc hs)
theorem aw_dup_x2 (K : am_ok X cc own nl dd) {a b g : am_V} (d : decode cc pc = .ok (.dup_x2, 1)) (hn : pc + 1 = n) (ha : ∀ y, a ≠ .inr (.inl y)) (hb9 : ∀ y, b ≠ .inr (.inl y)) (hg : ∀ y, g ≠ .inr (.inl y))
    (k : AW X n lv (a :: b :: g :: a :: r) w bc bs) : AW X pc lv (a :: b :: g :: r) w bc bs := by
  obtain ⟨p, l, e, R, s, m, args, below, meth, c, Q, D, tc, A, G, mc, ms, nL⟩ := X
  obtain ⟨hx, hb, ⟨hml, rfl⟩, hown, hts, hK, hmc, hms, hA, hlk, hF, hfr, hlo, htr⟩ := K
  subst hn
  intro ad H locs cells slots ls hG hP hD hS hl hc hs
  exact lv_dup_x2 hx hb d (am_c1 ha) (am_c1 hb9) (am_c1 hg) (k ad H locs cells slots ls hG hP hD hS hl hc hs)
theorem aw_dup2 (K : am_ok X cc own nl dd) {a b : am_V} (d : decode cc pc = .ok (.dup2, 1)) (hn : pc + 1 = n) (ha : ∀ y, a ≠ .inr (.inl y)) (hb9 : ∀ y, b ≠ .inr (.inl y))
    (k : AW X n lv (a :: b :: a :: b :: r) w bc bs) : AW X pc lv (a :: b :: r) w bc bs := by
  obtain ⟨p, l, e, R, s, m, args, below, meth, c, Q, D, tc, A, G, mc, ms, nL⟩ := X
  obtain ⟨hx, hb, ⟨hml, rfl⟩, hown, hts, hK, hmc, hms, hA, hlk, hF, hfr, hlo, htr⟩ := K
  subst hn
  intro ad H locs cells slots ls hG hP hD hS hl hc hs
  exact lv_dup2_11 hx hb d (am_c1 ha) (am_c1 hb9) (k ad H locs cells slots ls hG hP hD hS hl hc hs)
theorem aw_dup2l (K : am_ok X cc own nl dd) {x : Int64} (d : decode cc pc = .ok (.dup2, 1)) (hn : pc + 1 = n) 
    (k : AW X n lv (aL x :: aL x :: r) w bc bs) : AW X pc lv (aL x :: r) w bc bs := by
  obtain ⟨p, l, e, R, s, m, args, below, meth, c, Q, D, tc, A, G, mc, ms, nL⟩ := X
  obtain ⟨hx, hb, ⟨hml, rfl⟩, hown, hts, hK, hmc, hms, hA, hlk, hF, hfr, hlo, htr⟩ := K
  subst hn
  intro ad H locs cells slots ls hG hP hD hS hl hc hs
  exact lv_dup2_2 hx hb d rfl (k ad H locs cells slots ls hG hP hD hS hl hc hs)
theorem aw_istore_n (K : am_ok X cc own nl dd) {z : Fin 4} {x : Int32} {lv' : List (Option am_V)} (d : decode cc pc = .ok (.istore_n z, 1)) (hn : pc + 1 = n) (hz : (z : Nat) < nl) (hv : am_s1 lv (z : Nat) (aI x) = lv')
    (k : AW X n lv' r w bc bs) : AW X pc lv (aI x :: r) w bc bs := by
  obtain ⟨p, l, e, R, s, m, args, below, meth, c, Q, D, tc, A, G, mc, ms, nL⟩ := X
  obtain ⟨hx, hb, ⟨hml, rfl⟩, hown, hts, hK, hmc, hms, hA, hlk, hF, hfr, hlo, htr⟩ := K
  subst hn
  intro ad H locs cells slots ls hG hP hD hS hl hc hs
  subst hv
  exact lv_istore_n hx hb d rfl hl hz rfl (fun ls' hl' => k ad H locs cells slots ls' hG hP hD hS (am_put1 hl') hc hs)
theorem aw_istore (K : am_ok X cc own nl dd) {z : Nat} {x : Int32} {lv' : List (Option am_V)} (d : decode cc pc = .ok (.istore z, 2)) (hn : pc + 2 = n) (hz : z < nl) (hv : am_s1 lv z (aI x) = lv')
    (k : AW X n lv' r w bc bs) : AW X pc lv (aI x :: r) w bc bs := by
  obtain ⟨p, l, e, R, s, m, args, below, meth, c, Q, D, tc, A, G, mc, ms, nL⟩ := X
  obtain ⟨hx, hb, ⟨hml, rfl⟩, hown, hts, hK, hmc, hms, hA, hlk, hF, hfr, hlo, htr⟩ := K
  subst hn
  intro ad H locs cells slots ls hG hP hD hS hl hc hs
  subst hv
  exact lv_istore hx hb d hl hz rfl (fun ls' hl' => k ad H locs cells slots ls' hG hP hD hS (am_put1 hl') hc hs)
theorem aw_lstore_n (K : am_ok X cc own nl dd) {z : Fin 4} {x : Int64} {lv' : List (Option am_V)} (d : decode cc pc = .ok (.lstore_n z, 1)) (hn : pc + 1 = n) (hz : (z : Nat) + 1 < nl) (hv : am_s2 lv (z : Nat) (aL x) = lv')
    (k : AW X n lv' r w bc bs) : AW X pc lv (aL x :: r) w bc bs := by
  obtain ⟨p, l, e, R, s, m, args, below, meth, c, Q, D, tc, A, G, mc, ms, nL⟩ := X
  obtain ⟨hx, hb, ⟨hml, rfl⟩, hown, hts, hK, hmc, hms, hA, hlk, hF, hfr, hlo, htr⟩ := K
  subst hn
  intro ad H locs cells slots ls hG hP hD hS hl hc hs
  subst hv
  exact lv_lstore_n hx hb d rfl hl hz rfl (fun ls' hl' => k ad H locs cells slots ls' hG hP hD hS (am_put2 hl') hc hs)
theorem aw_lstore (K : am_ok X cc own nl dd) {z : Nat} {x : Int64} {lv' : List (Option am_V)} (d : decode cc pc = .ok (.lstore z, 2)) (hn : pc + 2 = n) (hz : z + 1 < nl) (hv : am_s2 lv z (aL x) = lv')
    (k : AW X n lv' r w bc bs) : AW X pc lv (aL x :: r) w bc bs := by
  obtain ⟨p, l, e, R, s, m, args, below, meth, c, Q, D, tc, A, G, mc, ms, nL⟩ := X
  obtain ⟨hx, hb, ⟨hml, rfl⟩, hown, hts, hK, hmc, hms, hA, hlk, hF, hfr, hlo, htr⟩ := K
  subst hn
  intro ad H locs cells slots ls hG hP hD hS hl hc hs
  subst hv
  exact lv_lstore hx hb d hl hz rfl (fun ls' hl' => k ad H locs cells slots ls' hG hP hD hS (am_put2 hl') hc hs)
theorem aw_astore_n (K : am_ok X cc own nl dd) {z : Fin 4} {x : Nat} {lv' : List (Option am_V)} (d : decode cc pc = .ok (.astore_n z, 1)) (hn : pc + 1 = n) (hz : (z : Nat) < nl) (hv : am_s1 lv (z : Nat) (aR x) = lv')
    (k : AW X n lv' r w bc bs) : AW X pc lv (aR x :: r) w bc bs := by
  obtain ⟨p, l, e, R, s, m, args, below, meth, c, Q, D, tc, A, G, mc, ms, nL⟩ := X
  obtain ⟨hx, hb, ⟨hml, rfl⟩, hown, hts, hK, hmc, hms, hA, hlk, hF, hfr, hlo, htr⟩ := K
  subst hn
  intro ad H locs cells slots ls hG hP hD hS hl hc hs
  subst hv
  exact lv_astore_n hx hb d rfl hl hz rfl (fun ls' hl' => k ad H locs cells slots ls' hG hP hD hS (am_put1 hl') hc hs)
theorem aw_astore (K : am_ok X cc own nl dd) {z : Nat} {x : Nat} {lv' : List (Option am_V)} (d : decode cc pc = .ok (.astore z, 2)) (hn : pc + 2 = n) (hz : z < nl) (hv : am_s1 lv z (aR x) = lv')
    (k : AW X n lv' r w bc bs) : AW X pc lv (aR x :: r) w bc bs := by
  obtain ⟨p, l, e, R, s, m, args, below, meth, c, Q, D, tc, A, G, mc, ms, nL⟩ := X
  obtain ⟨hx, hb, ⟨hml, rfl⟩, hown, hts, hK, hmc, hms, hA, hlk, hF, hfr, hlo, htr⟩ := K
  subst hn
  intro ad H locs cells slots ls hG hP hD hS hl hc hs
  subst hv
  exact lv_astore hx hb d hl hz rfl (fun ls' hl' => k ad H locs cells slots ls' hG hP hD hS (am_put1 hl') hc hs)
theorem am_idx {ad : Nat → Nat} {lv : List (Option am_V)} {i : Nat} {v : am_V} (h : lv[i]? = some (some v)) : ∃ k : Nat, (am_l ad 0 lv)[k]? = some (i, am_v ad v) := by
  have h1 : (i, am_v ad v) ∈ am_l ad 0 lv := (am_l_mem ad lv 0 _).mpr ⟨i, v, h, by simp⟩
  exact List.getElem?_of_mem h1
theorem aw_iinc (K : am_ok X cc own nl dd) {z : Nat} {i : Int} {x v : Int32} {lv' : List (Option am_V)} (d : decode cc pc = .ok (.iinc z i, 3)) (hn : pc + 3 = n) (hx0 : lv[z]? = some (some (aI x))) (hi : x + Int32.ofInt i = v) (hz : z < nl) (hv : am_s1 lv z (aI v) = lv')
    (k : AW X n lv' r w bc bs) : AW X pc lv r w bc bs := by
  obtain ⟨p, l, e, R, s, m, args, below, meth, c, Q, D, tc, A, G, mc, ms, nL⟩ := X
  obtain ⟨hx, hb, ⟨hml, rfl⟩, hown, hts, hK, hmc, hms, hA, hlk, hF, hfr, hlo, htr⟩ := K
  subst hn
  intro ad H locs cells slots ls hG hP hD hS hl hc hs
  subst hv
  obtain ⟨kk, hkk⟩ := am_idx (ad := ad) hx0
  exact lv_iinc hx hb d hl hkk hi hz rfl (fun ls' hl' => k ad H locs cells slots ls' hG hP hD hS (am_put1 hl') hc hs)
theorem aw_if_eq (K : am_ok X cc own nl dd) {x : Int32} {off : Int} {t : Nat} (d : decode cc pc = .ok (.ifCond .eq off, 3)) (ht : (pc : Int) + off = (t : Int)) (hn : pc + 3 = n) (kt : x = 0 → AW X t lv r w bc bs) (kf : ¬ x = 0 → AW X n lv r w bc bs) : AW X pc lv (aI x :: r) w bc bs := by
  obtain ⟨p, l, e, R, s, m, args, below, meth, c, Q, D, tc, A, G, mc, ms, nL⟩ := X
  obtain ⟨hx, hb, ⟨hml, rfl⟩, hown, hts, hK, hmc, hms, hA, hlk, hF, hfr, hlo, htr⟩ := K
  subst hn
  intro ad H locs cells slots ls hG hP hD hS hl hc hs
  exact lv_if_eq hx hb d ht (fun q => kt q ad H locs cells slots ls hG hP hD hS hl hc hs) (fun q => kf q ad H locs cells slots ls hG hP hD hS hl hc hs)
theorem aw_icmp_eq (K : am_ok X cc own nl dd) {x y : Int32} {off : Int} {t : Nat} (d : decode cc pc = .ok (.if_icmp .eq off, 3)) (ht : (pc : Int) + off = (t : Int)) (hn : pc + 3 = n) (kt : x = y → AW X t lv r w bc bs) (kf : ¬ x = y → AW X n lv r w bc bs) : AW X pc lv (aI y :: aI x :: r) w bc bs := by
  obtain ⟨p, l, e, R, s, m, args, below, meth, c, Q, D, tc, A, G, mc, ms, nL⟩ := X
  obtain ⟨hx, hb, ⟨hml, rfl⟩, hown, hts, hK, hmc, hms, hA, hlk, hF, hfr, hlo, htr⟩ := K
  subst hn
  intro ad H locs cells slots ls hG hP hD hS hl hc hs
  exact lv_icmp_eq hx hb d ht (fun q => kt q ad H locs cells slots ls hG hP hD hS hl hc hs) (fun q => kf q ad H locs cells slots ls hG hP hD hS hl hc hs)
theorem aw_if_ne (K : am_ok X cc own nl dd) {x : Int32} {off : Int} {t : Nat} (d : decode cc pc = .ok (.ifCond .ne off, 3)) (ht : (pc : Int) + off = (t : Int)) (hn : pc + 3 = n) (kt : ¬ x = 0 → AW X t lv r w bc bs) (kf : x = 0 → AW X n lv r w bc bs) : AW X pc lv (aI x :: r) w bc bs := by
  obtain ⟨p, l, e, R, s, m, args, below, meth, c, Q, D, tc, A, G, mc, ms, nL⟩ := X
  obtain ⟨hx, hb, ⟨hml, rfl⟩, hown, hts, hK, hmc, hms, hA, hlk, hF, hfr, hlo, htr⟩ := K
  subst hn
  intro ad H locs cells slots ls hG hP hD hS hl hc hs
  exact lv_if_ne hx hb d ht (fun q => kt q ad H locs cells slots ls hG hP hD hS hl hc hs) (fun q => kf q ad H locs cells slots ls hG hP hD hS hl hc hs)
theorem aw_icmp_ne (K : am_ok X cc own nl dd) {x y : Int32} {off : Int} {t : Nat} (d : decode cc pc = .ok (.if_icmp .ne off, 3)) (ht : (pc : Int) + off = (t : Int)) (hn : pc + 3 = n) (kt : ¬ x = y → AW X t lv r w bc bs) (kf : x = y → AW X n lv r w bc bs) : AW X pc lv (aI y :: aI x :: r) w bc bs := by
  obtain ⟨p, l, e, R, s, m, args, below, meth, c, Q, D, tc, A, G, mc, ms, nL⟩ := X
  obtain ⟨hx, hb, ⟨hml, rfl⟩, hown, hts, hK, hmc, hms, hA, hlk, hF, hfr, hlo, htr⟩ := K
  subst hn
  intro ad H locs cells slots ls hG hP hD hS hl hc hs
  exact lv_icmp_ne hx hb d ht (fun q => kt q ad H locs cells slots ls hG hP hD hS hl hc hs) (fun q => kf q ad H locs cells slots ls hG hP hD hS hl hc hs)
theorem aw_if_lt (K : am_ok X cc own nl dd) {x : Int32} {off : Int} {t : Nat} (d : decode cc pc = .ok (.ifCond .lt off, 3)) (ht : (pc : Int) + off = (t : Int)) (hn : pc + 3 = n) (kt : x < 0 → AW X t lv r w bc bs) (kf : ¬ x < 0 → AW X n lv r w bc bs) : AW X pc lv (aI x :: r) w bc bs := by
  obtain ⟨p, l, e, R, s, m, args, below, meth, c, Q, D, tc, A, G, mc, ms, nL⟩ := X
  obtain ⟨hx, hb, ⟨hml, rfl⟩, hown, hts, hK, hmc, hms, hA, hlk, hF, hfr, hlo, htr⟩ := K
  subst hn
  intro ad H locs cells slots ls hG hP hD hS hl hc hs
  exact lv_if_lt hx hb d ht (fun q => kt q ad H locs cells slots ls hG hP hD hS hl hc hs) (fun q => kf q ad H locs cells slots ls hG hP hD hS hl hc hs)
theorem aw_icmp_lt (K : am_ok X cc own nl dd) {x y : Int32} {off : Int} {t : Nat} (d : decode cc pc = .ok (.if_icmp .lt off, 3)) (ht : (pc : Int) + off = (t : Int)) (hn : pc + 3 = n) (kt : x < y → AW X t lv r w bc bs) (kf : ¬ x < y → AW X n lv r w bc bs) : AW X pc lv (aI y :: aI x :: r) w bc bs := by
  obtain ⟨p, l, e, R, s, m, args, below, meth, c, Q, D, tc, A, G, mc, ms, nL⟩ := X
  obtain ⟨hx, hb, ⟨hml, rfl⟩, hown, hts, hK, hmc, hms, hA, hlk, hF, hfr, hlo, htr⟩ := K
  subst hn
  intro ad H locs cells slots ls hG hP hD hS hl hc hs
  exact lv_icmp_lt hx hb d ht (fun q => kt q ad H locs cells slots ls hG hP hD hS hl hc hs) (fun q => kf q ad H locs cells slots ls hG hP hD hS hl hc hs)
theorem aw_if_ge (K : am_ok X cc own nl dd) {x : Int32} {off : Int} {t : Nat} (d : decode cc pc = .ok (.ifCond .ge off, 3)) (ht : (pc : Int) + off = (t : Int)) (hn : pc + 3 = n) (kt : 0 ≤ x → AW X t lv r w bc bs) (kf : ¬ 0 ≤ x → AW X n lv r w bc bs) : AW X pc lv (aI x :: r) w bc bs := by
  obtain ⟨p, l, e, R, s, m, args, below, meth, c, Q, D, tc, A, G, mc, ms, nL⟩ := X
  obtain ⟨hx, hb, ⟨hml, rfl⟩, hown, hts, hK, hmc, hms, hA, hlk, hF, hfr, hlo, htr⟩ := K
  subst hn
  intro ad H locs cells slots ls hG hP hD hS hl hc hs
  exact lv_if_ge hx hb d ht (fun q => kt q ad H locs cells slots ls hG hP hD hS hl hc hs) (fun q => kf q ad H locs cells slots ls hG hP hD hS hl hc hs)
theorem aw_icmp_ge (K : am_ok X cc own nl dd) {x y : Int32} {off : Int} {t : Nat} (d : decode cc pc = .ok (.if_icmp .ge off, 3)) (ht : (pc : Int) + off = (t : Int)) (hn : pc + 3 = n) (kt : y ≤ x → AW X t lv r w bc bs) (kf : ¬ y ≤ x → AW X n lv r w bc bs) : AW X pc lv (aI y :: aI x :: r) w bc bs := by
  obtain ⟨p, l, e, R, s, m, args, below, meth, c, Q, D, tc, A, G, mc, ms, nL⟩ := X
  obtain ⟨hx, hb, ⟨hml, rfl⟩, hown, hts, hK, hmc, hms, hA, hlk, hF, hfr, hlo, htr⟩ := K
  subst hn
  intro ad H locs cells slots ls hG hP hD hS hl hc hs
  exact lv_icmp_ge hx hb d ht (fun q => kt q ad H locs cells slots ls hG hP hD hS hl hc hs) (fun q => kf q ad H locs cells slots ls hG hP hD hS hl hc hs)
theorem aw_if_gt (K : am_ok X cc own nl dd) {x : Int32} {off : Int} {t : Nat} (d : decode cc pc = .ok (.ifCond .gt off, 3)) (ht : (pc : Int) + off = (t : Int)) (hn : pc + 3 = n) (kt : 0 < x → AW X t lv r w bc bs) (kf : ¬ 0 < x → AW X n lv r w bc bs) : AW X pc lv (aI x :: r) w bc bs := by
  obtain ⟨p, l, e, R, s, m, args, below, meth, c, Q, D, tc, A, G, mc, ms, nL⟩ := X
  obtain ⟨hx, hb, ⟨hml, rfl⟩, hown, hts, hK, hmc, hms, hA, hlk, hF, hfr, hlo, htr⟩ := K
  subst hn
  intro ad H locs cells slots ls hG hP hD hS hl hc hs
  exact lv_if_gt hx hb d ht (fun q => kt q ad H locs cells slots ls hG hP hD hS hl hc hs) (fun q => kf q ad H locs cells slots ls hG hP hD hS hl hc hs)
theorem aw_icmp_gt (K : am_ok X cc own nl dd) {x y : Int32} {off : Int} {t : Nat} (d : decode cc pc = .ok (.if_icmp .gt off, 3)) (ht : (pc : Int) + off = (t : Int)) (hn : pc + 3 = n) (kt : y < x → AW X t lv r w bc bs) (kf : ¬ y < x → AW X n lv r w bc bs) : AW X pc lv (aI y :: aI x :: r) w bc bs := by
  obtain ⟨p, l, e, R, s, m, args, below, meth, c, Q, D, tc, A, G, mc, ms, nL⟩ := X
  obtain ⟨hx, hb, ⟨hml, rfl⟩, hown, hts, hK, hmc, hms, hA, hlk, hF, hfr, hlo, htr⟩ := K
  subst hn
  intro ad H locs cells slots ls hG hP hD hS hl hc hs
  exact lv_icmp_gt hx hb d ht (fun q => kt q ad H locs cells slots ls hG hP hD hS hl hc hs) (fun q => kf q ad H locs cells slots ls hG hP hD hS hl hc hs)
theorem aw_if_le (K : am_ok X cc own nl dd) {x : Int32} {off : Int} {t : Nat} (d : decode cc pc = .ok (.ifCond .le off, 3)) (ht : (pc : Int) + off = (t : Int)) (hn : pc + 3 = n) (kt : x ≤ 0 → AW X t lv r w bc bs) (kf : ¬ x ≤ 0 → AW X n lv r w bc bs) : AW X pc lv (aI x :: r) w bc bs := by
  obtain ⟨p, l, e, R, s, m, args, below, meth, c, Q, D, tc, A, G, mc, ms, nL⟩ := X
  obtain ⟨hx, hb, ⟨hml, rfl⟩, hown, hts, hK, hmc, hms, hA, hlk, hF, hfr, hlo, htr⟩ := K
  subst hn
  intro ad H locs cells slots ls hG hP hD hS hl hc hs
  exact lv_if_le hx hb d ht (fun q => kt q ad H locs cells slots ls hG hP hD hS hl hc hs) (fun q => kf q ad H locs cells slots ls hG hP hD hS hl hc hs)
theorem aw_icmp_le (K : am_ok X cc own nl dd) {x y : Int32} {off : Int} {t : Nat} (d : decode cc pc = .ok (.if_icmp .le off, 3)) (ht : (pc : Int) + off = (t : Int)) (hn : pc + 3 = n) (kt : x ≤ y → AW X t lv r w bc bs) (kf : ¬ x ≤ y → AW X n lv r w bc bs) : AW X pc lv (aI y :: aI x :: r) w bc bs := by
  obtain ⟨p, l, e, R, s, m, args, below, meth, c, Q, D, tc, A, G, mc, ms, nL⟩ := X
  obtain ⟨hx, hb, ⟨hml, rfl⟩, hown, hts, hK, hmc, hms, hA, hlk, hF, hfr, hlo, htr⟩ := K
  subst hn
  intro ad H locs cells slots ls hG hP hD hS hl hc hs
  exact lv_icmp_le hx hb d ht (fun q => kt q ad H locs cells slots ls hG hP hD hS hl hc hs) (fun q => kf q ad H locs cells slots ls hG hP hD hS hl hc hs)
theorem aw_goto (K : am_ok X cc own nl dd) {off : Int} (d : decode cc pc = .ok (.goto off, 3)) (hn : (pc : Int) + off = (n : Int)) (k : AW X n lv r w bc bs) : AW X pc lv r w bc bs := by
  obtain ⟨p, l, e, R, s, m, args, below, meth, c, Q, D, tc, A, G, mc, ms, nL⟩ := X
  obtain ⟨hx, hb, ⟨hml, rfl⟩, hown, hts, hK, hmc, hms, hA, hlk, hF, hfr, hlo, htr⟩ := K
  intro ad H locs cells slots ls hG hP hD hS hl hc hs
  exact lv_goto hx hb d hn (k ad H locs cells slots ls hG hP hD hS hl hc hs)
theorem aw_tsw (K : am_ok X cc own nl dd) {x : Int32} {df lo hi : Int} {offs : Array Int} {len : Nat} (d : decode cc pc = .ok (.tableswitch df lo hi offs, len)) (kin : ∀ j : Nat, lo + j ≤ hi → x.toInt = lo + j → ∃ (off : Int) (t : Nat), offs[j]? = some off ∧ (pc : Int) + off = (t : Int) ∧ AW X t lv r w bc bs) (kout : x.toInt < lo ∨ hi < x.toInt → ∃ t : Nat, (pc : Int) + df = (t : Int) ∧ AW X t lv r w bc bs) : AW X pc lv (aI x :: r) w bc bs := by
  obtain ⟨p, l, e, R, s, m, args, below, meth, c, Q, D, tc, A, G, mc, ms, nL⟩ := X
  obtain ⟨hx, hb, ⟨hml, rfl⟩, hown, hts, hK, hmc, hms, hA, hlk, hF, hfr, hlo, htr⟩ := K
  intro ad H locs cells slots ls hG hP hD hS hl hc hs
  by_cases h : x.toInt < lo ∨ hi < x.toInt
  · obtain ⟨t, ht, k⟩ := kout h
    exact lv_tableOut hx hb d h ht (k ad H locs cells slots ls hG hP hD hS hl hc hs)
  · have h1 : ¬ x.toInt < lo := fun q => h (Or.inl q)
    have h2 : ¬ hi < x.toInt := fun q => h (Or.inr q)
    obtain ⟨off, t, ho, ht, k⟩ := kin (x.toInt - lo).toNat (by omega) (by omega)
    exact lv_tableIn hx hb d h1 h2 ho ht (k ad H locs cells slots ls hG hP hD hS hl hc hs)
/-! fields -/
def am_fd (own : String) (idx ci j : Nat) : Prop := ∃ (C : String) (T : u_T) (N : Nat), classes[ci]? = some (C, T, N) ∧ j < N ∧ Cond.fieldLink own idx (T j).1 (T j).2.1 (T j).2.2.1 ∈ am_T ∧ ∀ w ∈ u_ws C T N, w ∈ am_T
def am_fp (own : String) (idx ci j : Nat) (ty : FieldType) (fin : Bool) : Prop := ∃ (C : String) (T : u_T) (N : Nat) (ty0 : Nat → FieldType), classes[ci]? = some (C, T, N) ∧ j < N ∧ Cond.fieldLink own idx (T j).1 (T j).2.1 (T j).2.2.1 ∈ am_T ∧ (∀ w ∈ u_ws C T N, w ∈ am_T) ∧ (∀ k, k < N → parseFieldDescriptor (T k).2.2.1 = some (ty0 k)) ∧ (∀ a, a < N → ∀ b, b < N → a ≠ b → (T a).2.1 ≠ (T b).2.1) ∧ (T j).2.2.2 = fin ∧ (fin = true → (T j).1 = own) ∧ parseFieldDescriptor (T j).2.2.1 = some ty
def am_fit (ty : FieldType) (v : am_V) : Prop := ∀ ad : Nat → Nat, narrow ty (am_v ad v) = am_v ad v ∧ fits ty (am_v ad v) = true
theorem am_fit_i (x : Int32) : am_fit .int (aI x) := fun _ => ⟨rfl, rfl⟩
theorem am_fit_l (x : Int64) : am_fit .long (aL x) := fun _ => ⟨rfl, rfl⟩
theorem am_fit_o (C : String) (k : Nat) : am_fit (.object C) (aR k) := fun _ => ⟨rfl, rfl⟩
theorem am_fit_a (t : FieldType) (k : Nat) : am_fit (.array t) (aR k) := fun _ => ⟨rfl, rfl⟩
theorem aw_getf (K : am_ok X cc own nl dd) {idx ci j k : Nat} {fs : List am_V} {v : am_V} (hf : am_fd own idx ci j) (d : decode cc pc = .ok (.getfield idx, 3)) (hn : pc + 3 = n) (hw : w[k]? = some (oC ci fs)) (hv : fs[j]? = some v)
    (k9 : AW X n lv (v :: r) w bc bs) : AW X pc lv (aR k :: r) w bc bs := by
  obtain ⟨p, l, e, R, s, m, args, below, meth, c, Q, D, tc, A, G, mc, ms, nL⟩ := X
  obtain ⟨hx, hb, ⟨hml, rfl⟩, hown, hts, hK, hmc, hms, hA, hlk, hF, hfr, hlo, htr⟩ := K
  subst hn
  intro ad H locs cells slots ls hG hP hD hS hl hc hs
  obtain ⟨C, T, N, h1, h2, h3, h4⟩ := hf
  exact va_get (D := D) (ci := ci) (C := C) (T := T) (N := N) hx hb hts h4 hown hK hP k (am_w_at hw) h1 j h2 (hts _ h3) (fun _ h9 => h9) (v := am_v ad v) (by show (fs.map (am_v ad))[j]? = _; rw [List.getElem?_map, hv]; rfl) d (k9 ad H locs cells slots ls hG hP hD hS hl hc hs)
theorem am_w_fs (ad : Nat → Nat) (tc : Nat → ClassId) (w : List am_C) (k ci j : Nat) (fs : List am_V) (v : am_V) : am_w ad tc (w.set k (oC ci (fs.set j v))) = (am_w ad tc w).set k (ad k, .inr (ci, (fs.map (am_v ad)).set j (am_v ad v))) := by
  rw [am_w_set]
  simp [am_c, List.map_set]
theorem aw_putf (K : am_ok X cc own nl dd) {idx ci j k : Nat} {fs : List am_V} {v : am_V} {ty : FieldType} {w' : List am_C} (hf : am_fp own idx ci j ty false) (d : decode cc pc = .ok (.putfield idx, 3)) (hn : pc + 3 = n) (hw : w[k]? = some (oC ci fs)) (hj : j < fs.length) (hv : am_fit ty v) (hw' : w.set k (oC ci (fs.set j v)) = w')
    (k9 : AW X n lv r w' bc bs) : AW X pc lv (v :: aR k :: r) w bc bs := by
  obtain ⟨p, l, e, R, s, m, args, below, meth, c, Q, D, tc, A, G, mc, ms, nL⟩ := X
  obtain ⟨hx, hb, ⟨hml, rfl⟩, hown, hts, hK, hmc, hms, hA, hlk, hF, hfr, hlo, htr⟩ := K
  subst hn
  intro ad H locs cells slots ls hG hP hD hS hl hc hs
  obtain ⟨C, T, N, ty0, h1, h2, h3, h4, h5, h6, h7, -, h8⟩ := hf
  subst hw'
  exact va_put (D := D) (ci := ci) (C := C) (T := T) (N := N) hx hb hts h4 ty0 h5 h6 hown hK hP hD hS k (am_w_at hw) h1 j h2 (hts _ h3) (fun _ h9 => h9) h7 (ty := ty) (v := am_v ad v) h8 (hv ad).1 (hv ad).2 (by simpa using hj) d
    (fun H1 locs1 hP1 hD1 hS1 => k9 ad H1 locs1 cells slots ls hG (by rw [am_w_fs]; exact hP1) (by rw [am_w_fs]; exact hD1) hS1 hl hc hs)
def am_nm (X : am_X) (nm : String) : Prop := match X with
  | (p, l, e, R, s, m, args, below, meth, c, Q, D, tc, A, G, mc, ms, nL) => meth.name = nm
theorem aw_putF (K : am_ok X cc own nl dd) (hi : am_nm X "<init>") {idx ci j k : Nat} {fs : List am_V} {v : am_V} {ty : FieldType} {w' : List am_C} (hf : am_fp own idx ci j ty true) (d : decode cc pc = .ok (.putfield idx, 3)) (hn : pc + 3 = n) (hw : w[k]? = some (oC ci fs)) (hj : j < fs.length) (hv : am_fit ty v) (hw' : w.set k (oC ci (fs.set j v)) = w')
    (k9 : AW X n lv r w' bc bs) : AW X pc lv (v :: aR k :: r) w bc bs := by
  obtain ⟨p, l, e, R, s, m, args, below, meth, c, Q, D, tc, A, G, mc, ms, nL⟩ := X
  obtain ⟨hx, hb, ⟨hml, rfl⟩, hown, hts, hK, hmc, hms, hA, hlk, hF, hfr, hlo, htr⟩ := K
  subst hn
  intro ad H locs cells slots ls hG hP hD hS hl hc hs
  obtain ⟨C, T, N, ty0, h1, h2, h3, h4, h5, h6, h7, h0, h8⟩ := hf
  subst hw'
  exact va_putF (D := D) (ci := ci) (C := C) (T := T) (N := N) hx hb hts h4 ty0 h5 h6 hown hK hP hD hS k (am_w_at hw) h1 j h2 (hts _ h3) (fun _ h9 => h9) h7 hi (h0 rfl) (ty := ty) (v := am_v ad v) h8 (hv ad).1 (hv ad).2 (by simpa using hj) d
    (fun H1 locs1 hP1 hD1 hS1 => k9 ad H1 locs1 cells slots ls hG (by rw [am_w_fs]; exact hP1) (by rw [am_w_fs]; exact hD1) hS1 hl hc hs)
/-! arrays -/
theorem aw_iald (K : am_ok X cc own nl dd) {k N : Nat} {f : Nat → Int32} {i : Int32} (d : decode cc pc = .ok (.iaload, 1)) (hn : pc + 1 = n) (hw : w[k]? = some (iC N f)) (hi : vp_in i N)
    (k9 : AW X n lv (aI (f i.toNatClampNeg) :: r) w bc bs) : AW X pc lv (aI i :: aR k :: r) w bc bs := by
  obtain ⟨p, l, e, R, s, m, args, below, meth, c, Q, D, tc, A, G, mc, ms, nL⟩ := X
  obtain ⟨hx, hb, ⟨hml, rfl⟩, hown, hts, hK, hmc, hms, hA, hlk, hF, hfr, hlo, htr⟩ := K
  subst hn
  intro ad H locs cells slots ls hG hP hD hS hl hc hs
  exact va_iald hx hb hK hP k 0 (am_w_at hw) rfl hi d (k9 ad H locs cells slots ls hG hP hD hS hl hc hs)
theorem aw_zald (K : am_ok X cc own nl dd) {k N : Nat} {f : Nat → Int32} {i : Int32} (d : decode cc pc = .ok (.baload, 1)) (hn : pc + 1 = n) (hw : w[k]? = some (zC N f)) (hi : vp_in i N)
    (k9 : AW X n lv (aI (f i.toNatClampNeg) :: r) w bc bs) : AW X pc lv (aI i :: aR k :: r) w bc bs := by
  obtain ⟨p, l, e, R, s, m, args, below, meth, c, Q, D, tc, A, G, mc, ms, nL⟩ := X
  obtain ⟨hx, hb, ⟨hml, rfl⟩, hown, hts, hK, hmc, hms, hA, hlk, hF, hfr, hlo, htr⟩ := K
  subst hn
  intro ad H locs cells slots ls hG hP hD hS hl hc hs
  exact va_zald hx hb hK hP k 2 (am_w_at hw) rfl hi d (k9 ad H locs cells slots ls hG hP hD hS hl hc hs)
theorem aw_lald (K : am_ok X cc own nl dd) {k N : Nat} {f : Nat → Int64} {i : Int32} (d : decode cc pc = .ok (.laload, 1)) (hn : pc + 1 = n) (hw : w[k]? = some (jC N f)) (hi : vp_in i N)
    (k9 : AW X n lv (aL (f i.toNatClampNeg) :: r) w bc bs) : AW X pc lv (aI i :: aR k :: r) w bc bs := by
  obtain ⟨p, l, e, R, s, m, args, below, meth, c, Q, D, tc, A, G, mc, ms, nL⟩ := X
  obtain ⟨hx, hb, ⟨hml, rfl⟩, hown, hts, hK, hmc, hms, hA, hlk, hF, hfr, hlo, htr⟩ := K
  subst hn
  intro ad H locs cells slots ls hG hP hD hS hl hc hs
  exact va_lald hx hb hK hP k 1 (am_w_at hw) rfl hi d (k9 ad H locs cells slots ls hG hP hD hS hl hc hs)
theorem aw_iast (K : am_ok X cc own nl dd) {k N : Nat} {f : Nat → Int32} {i x : Int32} {w' : List am_C} (d : decode cc pc = .ok (.iastore, 1)) (hn : pc + 1 = n) (hw : w[k]? = some (iC N f)) (hi : vp_in i N) (hw' : w.set k (iC N (upd f i.toNatClampNeg x)) = w')
    (k9 : AW X n lv r w' bc bs) : AW X pc lv (aI x :: aI i :: aR k :: r) w bc bs := by
  obtain ⟨p, l, e, R, s, m, args, below, meth, c, Q, D, tc, A, G, mc, ms, nL⟩ := X
  obtain ⟨hx, hb, ⟨hml, rfl⟩, hown, hts, hK, hmc, hms, hA, hlk, hF, hfr, hlo, htr⟩ := K
  subst hn
  intro ad H locs cells slots ls hG hP hD hS hl hc hs
  subst hw'
  exact va_iast hx hb hK hP hD hS k 0 (am_w_at hw) rfl hi d (fun H1 locs1 hP1 hD1 hS1 => k9 ad H1 locs1 cells slots ls hG (by rw [am_w_set]; exact hP1) (by rw [am_w_set]; exact hD1) hS1 hl hc hs)
theorem aw_zast (K : am_ok X cc own nl dd) {k N : Nat} {f : Nat → Int32} {i x : Int32} {w' : List am_C} (d : decode cc pc = .ok (.bastore, 1)) (hn : pc + 1 = n) (hw : w[k]? = some (zC N f)) (hi : vp_in i N) (hw' : w.set k (zC N (upd f i.toNatClampNeg (vp_nar .boolean x))) = w')
    (k9 : AW X n lv r w' bc bs) : AW X pc lv (aI x :: aI i :: aR k :: r) w bc bs := by
  obtain ⟨p, l, e, R, s, m, args, below, meth, c, Q, D, tc, A, G, mc, ms, nL⟩ := X
  obtain ⟨hx, hb, ⟨hml, rfl⟩, hown, hts, hK, hmc, hms, hA, hlk, hF, hfr, hlo, htr⟩ := K
  subst hn
  intro ad H locs cells slots ls hG hP hD hS hl hc hs
  subst hw'
  exact va_zast hx hb hK hP hD hS k 2 (am_w_at hw) rfl hi d (fun H1 locs1 hP1 hD1 hS1 => k9 ad H1 locs1 cells slots ls hG (by rw [am_w_set]; exact hP1) (by rw [am_w_set]; exact hD1) hS1 hl hc hs)
theorem aw_last (K : am_ok X cc own nl dd) {k N : Nat} {f : Nat → Int64} {i : Int32} {x : Int64} {w' : List am_C} (d : decode cc pc = .ok (.lastore, 1)) (hn : pc + 1 = n) (hw : w[k]? = some (jC N f)) (hi : vp_in i N) (hw' : w.set k (jC N (vp_updL f i.toNatClampNeg x)) = w')
    (k9 : AW X n lv r w' bc bs) : AW X pc lv (aL x :: aI i :: aR k :: r) w bc bs := by
  obtain ⟨p, l, e, R, s, m, args, below, meth, c, Q, D, tc, A, G, mc, ms, nL⟩ := X
  obtain ⟨hx, hb, ⟨hml, rfl⟩, hown, hts, hK, hmc, hms, hA, hlk, hF, hfr, hlo, htr⟩ := K
  subst hn
  intro ad H locs cells slots ls hG hP hD hS hl hc hs
  subst hw'
  exact va_last hx hb hK hP hD hS k 1 (am_w_at hw) rfl hi d (fun H1 locs1 hP1 hD1 hS1 => k9 ad H1 locs1 cells slots ls hG (by rw [am_w_set]; exact hP1) (by rw [am_w_set]; exact hD1) hS1 hl hc hs)
theorem aw_ilen (K : am_ok X cc own nl dd) {k N : Nat} {f : Nat → Int32} (d : decode cc pc = .ok (.arraylength, 1)) (hn : pc + 1 = n) (hw : w[k]? = some (iC N f))
    (k9 : AW X n lv (aI (nI N) :: r) w bc bs) : AW X pc lv (aR k :: r) w bc bs := by
  obtain ⟨p, l, e, R, s, m, args, below, meth, c, Q, D, tc, A, G, mc, ms, nL⟩ := X
  obtain ⟨hx, hb, ⟨hml, rfl⟩, hown, hts, hK, hmc, hms, hA, hlk, hF, hfr, hlo, htr⟩ := K
  subst hn
  intro ad H locs cells slots ls hG hP hD hS hl hc hs
  exact va_alen hx hb hK hP k 0 (am_w_at hw) rfl rfl d (k9 ad H locs cells slots ls hG hP hD hS hl hc hs)
theorem aw_llen (K : am_ok X cc own nl dd) {k N : Nat} {f : Nat → Int64} (d : decode cc pc = .ok (.arraylength, 1)) (hn : pc + 1 = n) (hw : w[k]? = some (jC N f))
    (k9 : AW X n lv (aI (nI N) :: r) w bc bs) : AW X pc lv (aR k :: r) w bc bs := by
  obtain ⟨p, l, e, R, s, m, args, below, meth, c, Q, D, tc, A, G, mc, ms, nL⟩ := X
  obtain ⟨hx, hb, ⟨hml, rfl⟩, hown, hts, hK, hmc, hms, hA, hlk, hF, hfr, hlo, htr⟩ := K
  subst hn
  intro ad H locs cells slots ls hG hP hD hS hl hc hs
  exact va_alen hx hb hK hP k 1 (am_w_at hw) rfl rfl d (k9 ad H locs cells slots ls hG hP hD hS hl hc hs)
/-! returns -/
theorem am_mono {p : Program} {l : Launch} {e : Env} {R : Room} {s : State} {m : MethodId} {args : Array Value} {below : List Frame} {meth : Method} {c : Code} {H : Heap} {locs : List Loc} {cells slots : Nat} {Q Q' : State → Prop} {g : JFrame} (h : ∀ t, Q t → Q' t) (k : W p l e R s m args below meth c H locs cells slots Q g) : W p l e R s m args below meth c H locs cells slots Q' g := fun T hT Y => by
  obtain ⟨t, a, b⟩ := k T hT Y
  exact ⟨t, a, h t b⟩
def am_Q (D : va_G) (tc : Nat → ClassId) (G : (Nat → Nat) → Prop) (A : Nat → Prop) (post : Option am_V → List am_C → Prop) : Array Value → State → Outcome → State → Prop := fun _ st oc t => (∃ (r : Option am_V) (ad : Nat → Nat) (w : List am_C), oc = .returned (r.map (am_v ad)) ∧ G ad ∧ post r w ∧ va_P D classes (am_w ad tc w) t.heap ∧ va_K D classes (am_tys tc) t ∧ va_D A (am_w ad tc w)) ∧ va_F A st t
def am_rt (X : am_X) (ret : Option FieldType) (post : Option am_V → List am_C → Prop) : Prop := match X with
  | (p, l, e, R, s, m, args, below, meth, c, Q, D, tc, A, G, mc, ms, nL) => meth.sig.returnType = ret ∧ ∀ t : State, MQ below (am_Q D tc G A post) args s mc ms A t → Q t

theorem aw_iret (K : am_ok X cc own nl dd) {post : Option am_V → List am_C → Prop} (hr : am_rt X (some .int) post) {v : Int32} (d : decode cc pc = .ok (.ireturn, 1))  (h : post (some (aI v)) w) : AW X pc lv [aI v] w bc bs := by
  obtain ⟨p, l, e, R, s, m, args, below, meth, c, Q, D, tc, A, G, mc, ms, nL⟩ := X
  obtain ⟨hx, hb, ⟨hml, rfl⟩, hown, hts, hK, hmc, hms, hA, hlk, hF, hfr, hlo, htr⟩ := K
  obtain ⟨hr, hQ9⟩ := hr
  intro ad H locs cells slots ls hG hP hD hS hl hc hs
  refine am_mono hQ9 ?_
  refine W.widen (k := mc) (n := ms) (by omega) (by omega) ?_
  exact W.iret hx hb hr (Qc := am_Q D tc G A post) (fun t ht hW => ⟨⟨some (aI v), ad, w, rfl, hG, h, by rw [ht]; exact hP, va_K.moved hW.alike hK, hD⟩, hS.F ht⟩) hS.2.2 d hlk
theorem aw_zret (K : am_ok X cc own nl dd) {post : Option am_V → List am_C → Prop} (hr : am_rt X (some .boolean) post) {v : Int32} (d : decode cc pc = .ok (.ireturn, 1)) (hv : v = 0 ∨ v = 1) (h : post (some (aI v)) w) : AW X pc lv [aI v] w bc bs := by
  obtain ⟨p, l, e, R, s, m, args, below, meth, c, Q, D, tc, A, G, mc, ms, nL⟩ := X
  obtain ⟨hx, hb, ⟨hml, rfl⟩, hown, hts, hK, hmc, hms, hA, hlk, hF, hfr, hlo, htr⟩ := K
  obtain ⟨hr, hQ9⟩ := hr
  intro ad H locs cells slots ls hG hP hD hS hl hc hs
  refine am_mono hQ9 ?_
  refine W.widen (k := mc) (n := ms) (by omega) (by omega) ?_
  exact W.zret hx hb hr (by rcases hv with rfl | rfl <;> rfl) (Qc := am_Q D tc G A post) (fun t ht hW => ⟨⟨some (aI v), ad, w, rfl, hG, h, by rw [ht]; exact hP, va_K.moved hW.alike hK, hD⟩, hS.F ht⟩) hS.2.2 d hlk
theorem aw_lret (K : am_ok X cc own nl dd) {post : Option am_V → List am_C → Prop} (hr : am_rt X (some .long) post) {v : Int64} (d : decode cc pc = .ok (.lreturn, 1))  (h : post (some (aL v)) w) : AW X pc lv [aL v] w bc bs := by
  obtain ⟨p, l, e, R, s, m, args, below, meth, c, Q, D, tc, A, G, mc, ms, nL⟩ := X
  obtain ⟨hx, hb, ⟨hml, rfl⟩, hown, hts, hK, hmc, hms, hA, hlk, hF, hfr, hlo, htr⟩ := K
  obtain ⟨hr, hQ9⟩ := hr
  intro ad H locs cells slots ls hG hP hD hS hl hc hs
  refine am_mono hQ9 ?_
  refine W.widen (k := mc) (n := ms) (by omega) (by omega) ?_
  exact W.lret hx hb hr (Qc := am_Q D tc G A post) (fun t ht hW => ⟨⟨some (aL v), ad, w, rfl, hG, h, by rw [ht]; exact hP, va_K.moved hW.alike hK, hD⟩, hS.F ht⟩) hS.2.2 d hlk
theorem aw_vret (K : am_ok X cc own nl dd) {post : Option am_V → List am_C → Prop} (hr : am_rt X (none) post)  (d : decode cc pc = .ok (.return_, 1))  (h : post (none) w) : AW X pc lv [] w bc bs := by
  obtain ⟨p, l, e, R, s, m, args, below, meth, c, Q, D, tc, A, G, mc, ms, nL⟩ := X
  obtain ⟨hx, hb, ⟨hml, rfl⟩, hown, hts, hK, hmc, hms, hA, hlk, hF, hfr, hlo, htr⟩ := K
  obtain ⟨hr, hQ9⟩ := hr
  intro ad H locs cells slots ls hG hP hD hS hl hc hs
  refine am_mono hQ9 ?_
  refine W.widen (k := mc) (n := ms) (by omega) (by omega) ?_
  exact W.vret hx hb hr (Qc := am_Q D tc G A post) (fun t ht hW => ⟨⟨none, ad, w, rfl, hG, h, by rw [ht]; exact hP, va_K.moved hW.alike hK, hD⟩, hS.F ht⟩) hS.2.2 d hlk
/-! contracts -/
abbrev am_S : Type := List am_V → List am_C → (Option am_V → List am_C → Prop) → Prop
def am_G (al : Bool) (n0 : Nat) (ad0 : Nat → Nat) : (Nat → Nat) → Prop := fun ad => match al with
  | false => ad = ad0
  | true => ∀ k, k < n0 → ad k = ad0 k
def am_Pre (D : va_G) (tc : Nat → ClassId) (ad : Nat → Nat) (w : List am_C) (sz : Nat) (U : State) : Prop := U.heap.size = sz ∧ va_P D classes (am_w ad tc w) U.heap ∧ va_K D classes (am_tys tc) U ∧ va_D (fun _ => True) (am_w ad tc w) ∧ am_F (va_A (am_w ad tc w) sz) U
def am_rm (d mc ms : Nat) : Room := { frames := d, cells := mc, slots := ms, locals := 40 * d }
def am_ws (y : MethodName) (b : ByteArray) (maxL : Nat) (ret : Option FieldType) : List Cond := .code y b maxL ret :: am_T
def Con (y : MethodName) (b : ByteArray) (maxL : Nat) (ret : Option FieldType) (d mc ms : Nat) (al : Bool) (spec : am_S) : Prop := ∀ l : Launch, l.stackTraces = false → ∀ (D : va_G) (tc : Nat → ClassId) (ad : Nat → Nat) (av : List am_V) (w : List am_C) (post : Option am_V → List am_C → Prop) (sz : Nat), spec av w post →
  Met l y (am_ws y b maxL ret) (am_rm d mc ms) (va_Pc (av.map (am_v ad)) (am_Pre D tc ad w sz)) (am_Q D tc (am_G al w.length ad) (va_A (am_w ad tc w) sz) post) mc ms (va_A (am_w ad tc w) sz)
/-- the context may give its new cells any address -/
def am_al (X : am_X) (n0 : Nat) : Prop := match X with
  | (p, l, e, R, s, m, args, below, meth, c, Q, D, tc, A, G, mc, ms, nL) => ∀ ad ad' : Nat → Nat, G ad → (∀ k, k < n0 → ad' k = ad k) → G ad'
end AM
theorem am_al.mono {X : am_X} {n n0 : Nat} (h : am_al X n0) (hn : n0 ≤ n) : am_al X n := by
  obtain ⟨p, l, e, R, s, m, args, below, meth, c, Q, D, tc, A, G, mc, ms, nL⟩ := X
  exact fun ad ad' hG hk => h ad ad' hG (fun k hk2 => hk k (Nat.lt_of_lt_of_le hk2 hn))
theorem am_G_rf (al : Bool) (n0 : Nat) (ad : Nat → Nat) : am_G al n0 ad ad := by
  cases al
  · rfl
  · exact fun _ _ => rfl
theorem Con.of {y : MethodName} {b : ByteArray} {maxL : Nat} {ret : Option FieldType} {d mc ms : Nat} {al : Bool} {spec : am_S} (hy : plainName y.cls = true) (hlen : ∀ av w post, spec av w post → (am_ea av).length ≤ maxL)
    (H : ∀ X : am_X, am_ok X b y.cls maxL d → am_nm X y.name → ∀ av w post, spec av w post → am_rt X ret post → (al = true → am_al X w.length) → AW X 0 (am_en av maxL) [] w mc ms) : Con y b maxL ret d mc ms al spec := by
  intro l htr D tc ad av w post sz hsp
  refine Met.ofW (cc := b) (maxL := maxL) (ret := ret) hy rfl ?_
  intro p e s m args below meth c s₁ B hml hv
  obtain ⟨rfl, hsz, hP, hK, hD0, hF⟩ := hv
  subst hsz
  have hD := hD0.self (sz := s.heap.size)
  have K : am_ok (p, l, e, am_rm d mc ms, s, m, (av.map (am_v ad)).toArray, below, meth, c, MQ below (am_Q D tc (am_G al w.length ad) (va_A (am_w ad tc w) s.heap.size) post) (av.map (am_v ad)).toArray s mc ms (va_A (am_w ad tc w) s.heap.size), D, tc, va_A (am_w ad tc w) s.heap.size, am_G al w.length ad, mc, ms, maxL) b y.cls maxL d :=
    ⟨B.exec, B.bytes, ⟨hml, rfl⟩, findClass_of_methodNamed B.named, fun x hx => atoms_spec (ws := am_ws y b maxL ret) B.pre x (List.mem_cons_of_mem _ hx), hK, Nat.le_refl _, Nat.le_refl _, fun q h => Or.inr h, B.notSynchronized, hF, Nat.le_refl _, Nat.le_refl _, htr⟩
  have h := H _ K (name_of_methodNamed B.named B.method).1 av w post hsp ⟨B.returns, fun t h9 => h9⟩ (fun e9 => by
    subst e9
    exact fun ad1 ad2 h1 h2 k hk => (h2 k hk).trans (h1 k hk))
  rw [lg_entry_eq]
  exact h ad s.heap [] 0 0 _ (am_G_rf al w.length ad) hP hD va_S.rf (am_entry ad av (hlen av w post hsp)) (by omega) (by omega)
/-! calls -/
theorem am_T_good {w : Cond} (h : w ∈ am_T) : (w.onTables && w.keeps) = true ∨ ∃ ty, w = .arrayClass ty := good_of_word (List.mem_filter.mp h).2
def am_cB (own : String) (idx : Nat) (y : MethodName) (b : ByteArray) (maxL : Nat) (ret : Option FieldType) (n : Nat) : Prop := Cond.methodLink own idx y ∈ am_T ∧ Cond.initialized y.cls ∈ am_T ∧ Cond.code y b maxL ret ∈ am_T ∧ (y.cls ≠ "java/lang/invoke/MethodHandle" ∧ y.cls ≠ "java/lang/invoke/VarHandle" ∧ (parseMethodDescriptor y.desc).map (fun d => d.parameters.length) = some n) ∧ maxL ≤ 21
theorem am_good_ws {y : MethodName} {b : ByteArray} {maxL : Nat} {ret : Option FieldType} (h : Cond.code y b maxL ret ∈ am_T) : GoodIn am_T (am_ws y b maxL ret) := by
  intro w hw
  rcases List.mem_cons.mp hw with rfl | hw
  · exact ⟨h, am_T_good h⟩
  · exact ⟨hw, am_T_good hw⟩
theorem am_callB {R : Room} {s : State} {args : Array Value} {own : String} {idx : Nat} {y : MethodName} {b : ByteArray} {maxL : Nat} {ret : Option FieldType} {n d dd mc ms : Nat} (hts : ∀ w ∈ am_T, w.before args s = true) (hB : am_cB own idx y b maxL ret n) (hdd : d + 1 ≤ dd) (hfr : dd ≤ R.frames) (hlo : 40 * dd ≤ R.locals) : CallB R s args own idx y b maxL ret (am_ws y b maxL ret) (am_rm d mc ms) mc ms n :=
  callB_of n hts (am_good_ws hB.2.2.1) rfl rfl rfl (hts _ hB.2.1) (hts _ hB.1) hB.2.2.2.1 ⟨by show d + 1 ≤ _; omega, by
    have := hB.2.2.2.2
    show 8 + (maxL + 11) + 40 * d ≤ _
    omega⟩
section AMC
variable {p : Program} {l : Launch} {e : Env} {R : Room} {s : State} {m : MethodId} {args : Array Value} {below : List Frame} {meth : Method} {c : Code} {H : Heap} {locs : List Loc} {cells slots : Nat} {Q : State → Prop}
variable {pc : Nat} {ls : Array Slot} {rest st0 : List Value} {a : Array Value} {A A1 : Nat → Prop} {mc ms : Nat} {free : Addr → Prop} {D : va_G} {tc : Nat → ClassId} {G : (Nat → Nat) → Prop}
theorem am_go {post : Option am_V → List am_C → Prop} (hr : va_Run p l e R s m args below meth c H locs cells slots mc ms (F0 m pc ls st0) rest (am_Q D tc G A1 post a) A1) (hS : va_S A s.heap H locs) (hA : ∀ q, A1 q → A q)
    (kk : ∀ (rv : Option am_V) (ad : Nat → Nat) (w : List am_C) (H1 : Heap) (locs1 : List Loc), G ad → post rv w → va_P D classes (am_w ad tc w) H1 → va_D A (am_w ad tc w) → va_S A s.heap H1 locs1 → W p l e R s m args below meth c H1 locs1 (cells + mc) (slots + ms) Q (F0 m (pc + 3) ls ((rv.map (am_v ad)).toList ++ rest))) : W p l e R s m args below meth c H locs cells slots Q (F0 m pc ls st0) := by
  intro T hT X
  obtain ⟨v, st₀, t, T', L, h0, X', hL, e1, e2, ⟨⟨rv, ad, w, hv, hG, hp, hP, hK, hD⟩, hz, hk⟩, st⟩ := hr T hT X
  cases hv
  rw [h0] at hz hk
  obtain ⟨t2, a1, b1⟩ := kk rv ad w T'.heap (locs ++ L) hG hp (by rw [e1]; exact hP) (hD.weaken (fun _ _ _ h => hA _ h))
    ⟨Nat.le_trans hS.1 (by rw [e1]; exact hz), fun q h1 h2 => by rw [e1, hk q (Nat.lt_of_lt_of_le h1 hS.1) (fun z => h2 (hA q z))]; exact hS.2.1 q h1 h2, fun q hq => by
      rcases List.mem_append.mp hq with h | h
      · exact hS.2.2 q h
      · exact hA _ (hL q h)⟩ T' rfl X'
  exact ⟨t2, st t2 a1, b1⟩
end AMC
def am_sz : List am_V → Nat
  | [] => 0
  | .inl _ :: r => 1 + am_sz r
  | .inr (.inl _) :: r => 2 + am_sz r
  | .inr (.inr _) :: r => 1 + am_sz r
theorem am_sz_eq (ad : Nat → Nat) : ∀ r : List am_V, ((r.map (am_v ad)).map fun v => v.category).sum = am_sz r := by
  intro r
  induction r with
  | nil => rfl
  | cons v r ih =>
    rcases v with x | x | _ | x
    · simp only [List.map_cons, List.sum_cons, am_sz, ih]; rfl
    · simp only [List.map_cons, List.sum_cons, am_sz, ih]; rfl
    · simp only [List.map_cons, List.sum_cons, am_sz, ih]; rfl
    · simp only [List.map_cons, List.sum_cons, am_sz, ih]; rfl
theorem am_pre_blind {D : va_G} {tc : Nat → ClassId} {ad : Nat → Nat} {av : List Value} {w : List am_C} {sz : Nat} : FrameBlind (va_Pc av (am_Pre D tc ad w sz)) := by
  intro a U g mk q
  obtain ⟨q0, q1, qP, qK, qD, qF⟩ := q
  exact ⟨q0, q1, qP, va_K.moved (u := U) (U := U.calling g mk a) (Vm.Alike.refl U.vm) qK, qD, am_F.blind qF rfl rfl⟩
theorem am_stk (ad : Nat → Nat) (rv : Option am_V) (r : List am_V) : (rv.map (am_v ad)).toList ++ r.map (am_v ad) = (rv.toList ++ r).map (am_v ad) := by
  cases rv <;> simp
section AMD
variable {X : am_X} {cc : ByteArray} {own : String} {nl dd pc n bc bs : Nat} {lv : List (Option am_V)} {r stk av : List am_V} {w : List am_C} {y : MethodName} {b : ByteArray} {maxL d idx k ci : Nat} {ret : Option FieldType} {spec : am_S}

theorem aw_callV (K : am_ok X cc own nl dd) (hM : Con y b maxL ret d 0 0 false spec) (hB : am_cB own idx y b maxL ret av.length) (hI : Cond.instanceMethod y ∈ am_T) (hSel : Cond.selects y.cls y y ∈ am_T) (hdd : d + 1 ≤ dd) {T : u_T} {N : Nat} (hcl : classes[ci]? = some (y.cls, T, N)) {fs : List am_V} (hw : w[k]? = some (oC ci fs)) (dg : decode cc pc = .ok (.invokevirtual idx, 3)) (hn : pc + 3 = n) (hstk : stk = av.reverse ++ aR k :: r) (hr8 : am_sz r ≤ 8) {F : Option am_V → List am_C → Prop} (h : spec (aR k :: av) w F)
    (kk : ∀ (rv : Option am_V) (w' : List am_C), F rv w' → AW X n lv (rv.toList ++ r) w' bc bs) : AW X pc lv stk w bc bs := by
  obtain ⟨p, l, e, R, s, m, args, below, meth, c, Q, D, tc, A, G, mc, ms, nL⟩ := X
  obtain ⟨hx, hb, ⟨hml, rfl⟩, hown, hts, hK, hmc, hms, hA, hlk, hF, hfr, hlo, htr⟩ := K
  subst hn
  intro ad H locs cells slots ls hG hP hD hS hl hc hs
  subst hstk
  have hFc : ∀ q, va_A (am_w ad tc w) H.size q → A q := by
    intro q h9
    rcases h9 with ⟨k9, e9, h9⟩ | h9
    · exact hD.2 k9 (q, e9) h9
    · exact hA q (Nat.le_trans hS.1 h9)
  have hpre : ∀ U : State, U.heap = H → s.WarmedH U.vm → am_Pre D tc ad w H.size U := fun U hU hW => ⟨by rw [hU], by rw [hU]; exact hP, va_K.moved hW.alike hK, hD.weaken (fun _ _ _ _ => trivial), hF.to hFc hW (fun q h1 h2 => by rw [hU]; exact hS.2.1 q h1 h2)⟩
  refine am_go (va_runV (As := av.map (am_v ad)) (rest := r.map (am_v ad)) ⟨hx, hb, hml, hown, hts⟩ (hM l htr D tc ad (aR k :: av) w F H.size h) ⟨am_callB hts hB hdd hfr hlo, hts _ hI, hts _ hSel⟩ ⟨am_pre_blind, va_recv hK hP hcl (am_w_at hw), fun U hU hW => ⟨rfl, hpre U hU hW⟩⟩ rfl (by simp) hl.1 (by simp [am_v]) (lv_room (by rw [am_sz_eq]; exact hr8)) dg ⟨by omega, by omega⟩) hS hFc (fun rv ad' w' H1 locs1 hG' hF1 hP1 hD1 hS1 => ?_)
  have e9 : ad' = ad := hG'
  subst e9
  rw [am_stk]
  exact kk rv w' hF1 ad' H1 locs1 _ _ ls hG hP1 hD1 hS1 hl hc hs
theorem aw_callS (K : am_ok X cc own nl dd) (hM : Con y b maxL ret d 0 0 false spec) (hB : am_cB own idx y b maxL ret av.length) (hI : Cond.static y ∈ am_T) (hdd : d + 1 ≤ dd)  (dg : decode cc pc = .ok (.invokestatic idx, 3)) (hn : pc + 3 = n) (hstk : stk = av.reverse ++ r) (hr8 : am_sz r ≤ 8) {F : Option am_V → List am_C → Prop} (h : spec (av) w F)
    (kk : ∀ (rv : Option am_V) (w' : List am_C), F rv w' → AW X n lv (rv.toList ++ r) w' bc bs) : AW X pc lv stk w bc bs := by
  obtain ⟨p, l, e, R, s, m, args, below, meth, c, Q, D, tc, A, G, mc, ms, nL⟩ := X
  obtain ⟨hx, hb, ⟨hml, rfl⟩, hown, hts, hK, hmc, hms, hA, hlk, hF, hfr, hlo, htr⟩ := K
  subst hn
  intro ad H locs cells slots ls hG hP hD hS hl hc hs
  subst hstk
  have hFc : ∀ q, va_A (am_w ad tc w) H.size q → A q := by
    intro q h9
    rcases h9 with ⟨k9, e9, h9⟩ | h9
    · exact hD.2 k9 (q, e9) h9
    · exact hA q (Nat.le_trans hS.1 h9)
  have hpre : ∀ U : State, U.heap = H → s.WarmedH U.vm → am_Pre D tc ad w H.size U := fun U hU hW => ⟨by rw [hU], by rw [hU]; exact hP, va_K.moved hW.alike hK, hD.weaken (fun _ _ _ _ => trivial), hF.to hFc hW (fun q h1 h2 => by rw [hU]; exact hS.2.1 q h1 h2)⟩
  refine am_go (va_runS (As := av.map (am_v ad)) (rest := r.map (am_v ad)) ⟨hx, hb, hml, hown, hts⟩ (hM l htr D tc ad (av) w F H.size h) ⟨am_callB hts hB hdd hfr hlo, hts _ hI⟩ ⟨am_pre_blind, fun U hU hW => ⟨rfl, hpre U hU hW⟩⟩ rfl (by simp) hl.1 (by simp [am_v]) (lv_room (by rw [am_sz_eq]; exact hr8)) dg ⟨by omega, by omega⟩) hS hFc (fun rv ad' w' H1 locs1 hG' hF1 hP1 hD1 hS1 => ?_)
  have e9 : ad' = ad := hG'
  subst e9
  rw [am_stk]
  exact kk rv w' hF1 ad' H1 locs1 _ _ ls hG hP1 hD1 hS1 hl hc hs
def am_cN (own : String) (idx : Nat) (y : MethodName) (host : String) (b : ByteArray) (maxL : Nat) (ret : Option FieldType) (n : Nat) : Prop := (own, idx, y, host) ∈ am_NM ∧ Cond.initialized y.cls ∈ am_T ∧ Cond.code y b maxL ret ∈ am_T ∧ (y.cls ≠ "java/lang/invoke/MethodHandle" ∧ y.cls ≠ "java/lang/invoke/VarHandle" ∧ (parseMethodDescriptor y.desc).map (fun d => d.parameters.length) = some n) ∧ maxL ≤ 21
theorem am_callN {R : Room} {s : State} {args : Array Value} {own host : String} {idx : Nat} {y : MethodName} {b : ByteArray} {maxL : Nat} {ret : Option FieldType} {n d dd mc ms : Nat} {A : Nat → Prop} (hF : am_F A s) (hts : ∀ w ∈ am_T, w.before args s = true) (hB : am_cN own idx y host b maxL ret n) (hdd : d + 1 ≤ dd) (hfr : dd ≤ R.frames) (hlo : 40 * dd ≤ R.locals) : va_CN R s args own idx y host b maxL ret (am_ws y b maxL ret) (am_rm d mc ms) mc ms n :=
  va_cnB n hts (am_good_ws hB.2.2.1) rfl rfl rfl (hF.1 _ hB.1) (hts _ hB.2.1) hB.2.2.2.1 ⟨by show d + 1 ≤ _; omega, by
    have := hB.2.2.2.2
    show 8 + (maxL + 11) + 40 * d ≤ _
    omega⟩
theorem aw_callSN (K : am_ok X cc own nl dd) (hM : Con y b maxL ret d 0 0 false spec) {host : String} (hB : am_cN own idx y host b maxL ret av.length) (hI : Cond.static y ∈ am_T) (hdd : d + 1 ≤ dd)  (dg : decode cc pc = .ok (.invokestatic idx, 3)) (hn : pc + 3 = n) (hstk : stk = av.reverse ++ r) (hr8 : am_sz r ≤ 8) {F : Option am_V → List am_C → Prop} (h : spec (av) w F)
    (kk : ∀ (rv : Option am_V) (w' : List am_C), F rv w' → AW X n lv (rv.toList ++ r) w' bc bs) : AW X pc lv stk w bc bs := by
  obtain ⟨p, l, e, R, s, m, args, below, meth, c, Q, D, tc, A, G, mc, ms, nL⟩ := X
  obtain ⟨hx, hb, ⟨hml, rfl⟩, hown, hts, hK, hmc, hms, hA, hlk, hF, hfr, hlo, htr⟩ := K
  subst hn
  intro ad H locs cells slots ls hG hP hD hS hl hc hs
  subst hstk
  have hFc : ∀ q, va_A (am_w ad tc w) H.size q → A q := by
    intro q h9
    rcases h9 with ⟨k9, e9, h9⟩ | h9
    · exact hD.2 k9 (q, e9) h9
    · exact hA q (Nat.le_trans hS.1 h9)
  have hpre : ∀ U : State, U.heap = H → s.WarmedH U.vm → am_Pre D tc ad w H.size U := fun U hU hW => ⟨by rw [hU], by rw [hU]; exact hP, va_K.moved hW.alike hK, hD.weaken (fun _ _ _ _ => trivial), hF.to hFc hW (fun q h1 h2 => by rw [hU]; exact hS.2.1 q h1 h2)⟩
  refine am_go (va_runSN (As := av.map (am_v ad)) (rest := r.map (am_v ad)) ⟨hx, hb, hml, hown, hts⟩ (hM l htr D tc ad (av) w F H.size h) ⟨am_callN hF hts hB hdd hfr hlo, hts _ hI, trivial⟩ ⟨am_pre_blind, fun U hU hW => ⟨rfl, hpre U hU hW⟩⟩ rfl (by simp) hl.1 (by simp [am_v]) (lv_room (by rw [am_sz_eq]; exact hr8)) dg ⟨by omega, by omega⟩) hS hFc (fun rv ad' w' H1 locs1 hG' hF1 hP1 hD1 hS1 => ?_)
  have e9 : ad' = ad := hG'
  subst e9
  rw [am_stk]
  exact kk rv w' hF1 ad' H1 locs1 _ _ ls hG hP1 hD1 hS1 hl hc hs
end AMD
/-! making cells -/
def am_fr (n : Nat) (v : am_V) : Bool := match v with
  | .inr (.inr (some k)) => Nat.blt k n
  | _ => true
def am_fo (n : Nat) (v : Option am_V) : Bool := match v with
  | some v => am_fr n v
  | none => true
def am_fc (n : Nat) (c : am_C) : Bool := match c with
  | .inl (_, fs) => fs.all (am_fr n)
  | .inr _ => true
theorem am_v_fr {ad ad' : Nat → Nat} {n : Nat} (h : ∀ k, k < n → ad' k = ad k) {v : am_V} (hv : am_fr n v = true) : am_v ad' v = am_v ad v := by
  rcases v with x | x | _ | k
  · rfl
  · rfl
  · rfl
  · have hk : k < n := by simpa [am_fr, Nat.blt_eq] using hv
    show Value.ref (ad' k) = Value.ref (ad k)
    rw [h k hk]
theorem am_r_fr {ad ad' : Nat → Nat} {n : Nat} (h : ∀ k, k < n → ad' k = ad k) {r : List am_V} (hr : r.all (am_fr n) = true) : r.map (am_v ad') = r.map (am_v ad) :=
  List.map_congr_left fun v hv => am_v_fr h (List.all_eq_true.mp hr v hv)
theorem am_l_fr {ad ad' : Nat → Nat} {n : Nat} (h : ∀ k, k < n → ad' k = ad k) : ∀ {lv : List (Option am_V)} {k : Nat}, lv.all (am_fo n) = true → am_l ad' k lv = am_l ad k lv := by
  intro lv
  induction lv with
  | nil => intro k _; rfl
  | cons o q ih =>
    intro k hl
    have h1 := List.all_eq_true.mp hl o List.mem_cons_self
    have h2 : q.all (am_fo n) = true := List.all_eq_true.mpr fun x hx => List.all_eq_true.mp hl x (List.mem_cons_of_mem _ hx)
    cases o with
    | none => rw [am_l, am_l, ih h2]
    | some v => rw [am_l, am_l, ih h2, am_v_fr h h1]
theorem am_c_fr {ad ad' : Nat → Nat} {tc : Nat → ClassId} {n : Nat} (h : ∀ k, k < n → ad' k = ad k) {c : am_C} (hc : am_fc n c = true) : am_c ad' tc c = am_c ad tc c := by
  rcases c with ⟨ci, fs⟩ | ⟨t, N, f | f⟩
  · show Sum.inr (ci, fs.map (am_v ad')) = Sum.inr (ci, fs.map (am_v ad))
    rw [am_r_fr h hc]
  · rfl
  · rfl
theorem am_w_fr {ad ad' : Nat → Nat} {tc : Nat → ClassId} {w : List am_C} (h : ∀ k, k < w.length → ad' k = ad k) (hw : w.all (am_fc w.length) = true) : am_w ad' tc w = am_w ad tc w := by
  apply List.ext_getElem?
  intro i
  simp only [am_w, List.getElem?_mapIdx]
  cases hi : w[i]? with
  | none => rfl
  | some c =>
    have hlt : i < w.length := (List.getElem?_eq_some_iff.mp hi).1
    show some (ad' i, am_c ad' tc c) = some (ad i, am_c ad tc c)
    rw [h i hlt, am_c_fr h (List.all_eq_true.mp hw c (List.mem_of_getElem? hi))]
def am_up (ad : Nat → Nat) (n q : Nat) : Nat → Nat := fun k => if k = n then q else ad k
theorem am_up_lt (ad : Nat → Nat) (n q : Nat) : ∀ k, k < n → am_up ad n q k = ad k := fun k hk => if_neg (by omega)
theorem am_up_at (ad : Nat → Nat) (n q : Nat) : am_up ad n q n = q := if_pos rfl
section AME
variable {X : am_X} {cc : ByteArray} {own : String} {nl dd pc n bc bs : Nat} {lv : List (Option am_V)} {r : List am_V} {w : List am_C}

theorem aw_newi (K : am_ok X cc own nl dd) (hal : am_al X w.length) {z : Int32} {N' : Nat} (d : decode cc pc = .ok (.newarray .int, 2)) (hn : pc + 2 = n) (hac : Cond.arrayClass .int ∈ am_T) (hz : ¬ z < 0) (hN : z.toNatClampNeg = N') (hby : N' * componentBytes .int ≤ 536870912) (hc1 : 1 ≤ bc) (hc2 : N' ≤ bs) (hfw : w.all (am_fc w.length) = true) (hfl : lv.all (am_fo w.length) = true) (hfr9 : r.all (am_fr w.length) = true)
    (k9 : AW X n lv (aR w.length :: r) (w ++ [iC N' (fun _ => 0)]) (bc - 1) (bs - N')) : AW X pc lv (aI z :: r) w bc bs := by
  obtain ⟨p, l, e, R, s, m, args, below, meth, c, Q, D, tc, A, G, mc, ms, nL⟩ := X
  obtain ⟨hx, hb, ⟨hml, rfl⟩, hown, hts, hK, hmc, hms, hA, hlk, hF, hfr, hlo, htr⟩ := K
  subst hn
  intro ad H locs cells slots ls hG hP hD hS hl hc hs
  refine va_newa (atype := .int) hx hb (hts _ hac) rfl hK hP hD hS hA (a0 := (N', .inl (fun _ => 0))) (fun _ => rfl) hz hN hby (by omega) (by omega) d (fun q cA H1 hK1 hP1 hD1 hS1 => ?_)
  have h1 : s.vm.findClass ("[" ++ (.int : FieldType).toString) = some cA := (hK1.2 3 (cA, .int) rfl).2
  have h2 : s.vm.findClass ("[" ++ (.int : FieldType).toString) = some (tc 0) := (hK.2 0 (tc 0, .int) rfl).2
  have hcA : cA = tc 0 := Option.some.inj (h1.symm.trans h2)
  subst hcA
  have hup := am_up_lt ad w.length q
  have hw9 : am_w (am_up ad w.length q) tc (w ++ [iC N' (fun _ => 0)]) = am_w ad tc w ++ [(q, .inl (tc 0, (N', .inl (fun _ => 0))))] := by
    rw [am_w_app, am_w_fr hup hfw, am_up_at]
    rfl
  have h9 := k9 (am_up ad w.length q) H1 locs (cells + 1) (slots + N') ls (hal ad _ hG hup) (by rw [hw9]; exact hP1) (by rw [hw9]; exact hD1) hS1 (by rw [am_l_fr hup hfl]; exact hl) (by omega) (by omega)
  rw [List.map_cons, am_r_fr hup hfr9] at h9
  have e9 : am_v (am_up ad w.length q) (aR w.length) = .ref q := by
    show Value.ref (am_up ad w.length q w.length) = .ref q
    rw [am_up_at]
  rw [e9] at h9
  exact h9
theorem aw_newl (K : am_ok X cc own nl dd) (hal : am_al X w.length) {z : Int32} {N' : Nat} (d : decode cc pc = .ok (.newarray .long, 2)) (hn : pc + 2 = n) (hac : Cond.arrayClass .long ∈ am_T) (hz : ¬ z < 0) (hN : z.toNatClampNeg = N') (hby : N' * componentBytes .long ≤ 536870912) (hc1 : 1 ≤ bc) (hc2 : N' ≤ bs) (hfw : w.all (am_fc w.length) = true) (hfl : lv.all (am_fo w.length) = true) (hfr9 : r.all (am_fr w.length) = true)
    (k9 : AW X n lv (aR w.length :: r) (w ++ [jC N' (fun _ => 0)]) (bc - 1) (bs - N')) : AW X pc lv (aI z :: r) w bc bs := by
  obtain ⟨p, l, e, R, s, m, args, below, meth, c, Q, D, tc, A, G, mc, ms, nL⟩ := X
  obtain ⟨hx, hb, ⟨hml, rfl⟩, hown, hts, hK, hmc, hms, hA, hlk, hF, hfr, hlo, htr⟩ := K
  subst hn
  intro ad H locs cells slots ls hG hP hD hS hl hc hs
  refine va_newa (atype := .long) hx hb (hts _ hac) rfl hK hP hD hS hA (a0 := (N', .inr (.inl (fun _ => 0)))) (fun _ => rfl) hz hN hby (by omega) (by omega) d (fun q cA H1 hK1 hP1 hD1 hS1 => ?_)
  have h1 : s.vm.findClass ("[" ++ (.long : FieldType).toString) = some cA := (hK1.2 3 (cA, .long) rfl).2
  have h2 : s.vm.findClass ("[" ++ (.long : FieldType).toString) = some (tc 1) := (hK.2 1 (tc 1, .long) rfl).2
  have hcA : cA = tc 1 := Option.some.inj (h1.symm.trans h2)
  subst hcA
  have hup := am_up_lt ad w.length q
  have hw9 : am_w (am_up ad w.length q) tc (w ++ [jC N' (fun _ => 0)]) = am_w ad tc w ++ [(q, .inl (tc 1, (N', .inr (.inl (fun _ => 0)))))] := by
    rw [am_w_app, am_w_fr hup hfw, am_up_at]
    rfl
  have h9 := k9 (am_up ad w.length q) H1 locs (cells + 1) (slots + N') ls (hal ad _ hG hup) (by rw [hw9]; exact hP1) (by rw [hw9]; exact hD1) hS1 (by rw [am_l_fr hup hfl]; exact hl) (by omega) (by omega)
  rw [List.map_cons, am_r_fr hup hfr9] at h9
  have e9 : am_v (am_up ad w.length q) (aR w.length) = .ref q := by
    show Value.ref (am_up ad w.length q w.length) = .ref q
    rw [am_up_at]
  rw [e9] at h9
  exact h9
theorem aw_newz (K : am_ok X cc own nl dd) (hal : am_al X w.length) {z : Int32} {N' : Nat} (d : decode cc pc = .ok (.newarray .boolean, 2)) (hn : pc + 2 = n) (hac : Cond.arrayClass .boolean ∈ am_T) (hz : ¬ z < 0) (hN : z.toNatClampNeg = N') (hby : N' * componentBytes .boolean ≤ 536870912) (hc1 : 1 ≤ bc) (hc2 : N' ≤ bs) (hfw : w.all (am_fc w.length) = true) (hfl : lv.all (am_fo w.length) = true) (hfr9 : r.all (am_fr w.length) = true)
    (k9 : AW X n lv (aR w.length :: r) (w ++ [zC N' (fun _ => 0)]) (bc - 1) (bs - N')) : AW X pc lv (aI z :: r) w bc bs := by
  obtain ⟨p, l, e, R, s, m, args, below, meth, c, Q, D, tc, A, G, mc, ms, nL⟩ := X
  obtain ⟨hx, hb, ⟨hml, rfl⟩, hown, hts, hK, hmc, hms, hA, hlk, hF, hfr, hlo, htr⟩ := K
  subst hn
  intro ad H locs cells slots ls hG hP hD hS hl hc hs
  refine va_newa (atype := .boolean) hx hb (hts _ hac) rfl hK hP hD hS hA (a0 := (N', .inl (fun _ => 0))) (fun _ => rfl) hz hN hby (by omega) (by omega) d (fun q cA H1 hK1 hP1 hD1 hS1 => ?_)
  have h1 : s.vm.findClass ("[" ++ (.boolean : FieldType).toString) = some cA := (hK1.2 3 (cA, .boolean) rfl).2
  have h2 : s.vm.findClass ("[" ++ (.boolean : FieldType).toString) = some (tc 2) := (hK.2 2 (tc 2, .boolean) rfl).2
  have hcA : cA = tc 2 := Option.some.inj (h1.symm.trans h2)
  subst hcA
  have hup := am_up_lt ad w.length q
  have hw9 : am_w (am_up ad w.length q) tc (w ++ [zC N' (fun _ => 0)]) = am_w ad tc w ++ [(q, .inl (tc 2, (N', .inl (fun _ => 0))))] := by
    rw [am_w_app, am_w_fr hup hfw, am_up_at]
    rfl
  have h9 := k9 (am_up ad w.length q) H1 locs (cells + 1) (slots + N') ls (hal ad _ hG hup) (by rw [hw9]; exact hP1) (by rw [hw9]; exact hD1) hS1 (by rw [am_l_fr hup hfl]; exact hl) (by omega) (by omega)
  rw [List.map_cons, am_r_fr hup hfr9] at h9
  have e9 : am_v (am_up ad w.length q) (aR w.length) = .ref q := by
    show Value.ref (am_up ad w.length q w.length) = .ref q
    rw [am_up_at]
  rw [e9] at h9
  exact h9
def am_nw (own : String) (idx ci N : Nat) (fs : List am_V) : Prop := ∃ (C : String) (T : u_T) (ty : Nat → FieldType), classes[ci]? = some (C, T, N) ∧ (∀ w ∈ u_ws C T N, w ∈ am_T) ∧ (∀ k, k < N → parseFieldDescriptor (T k).2.2.1 = some (ty k)) ∧ Cond.classLink own idx C ∈ am_T ∧ Cond.instantiable C N ∈ am_T ∧ Cond.initialized C ∈ am_T ∧ (∀ (ad : Nat → Nat) (j : Nat), j < N → defaultValue (ty j) = vp_V (fs.map (am_v ad)) j) ∧ fs.all (am_fr 0) = true
theorem aw_new (K : am_ok X cc own nl dd) (hal : am_al X w.length) {idx ci N : Nat} {fs : List am_V} (hf : am_nw own idx ci N fs) (d : decode cc pc = .ok (.new idx, 3)) (hn : pc + 3 = n) (hc1 : 1 ≤ bc) (hc2 : N ≤ bs) (hfw : w.all (am_fc w.length) = true) (hfl : lv.all (am_fo w.length) = true) (hfr9 : r.all (am_fr w.length) = true)
    (k9 : AW X n lv (aR w.length :: r) (w ++ [oC ci fs]) (bc - 1) (bs - N)) : AW X pc lv r w bc bs := by
  obtain ⟨p, l, e, R, s, m, args, below, meth, c, Q, D, tc, A, G, mc, ms, nL⟩ := X
  obtain ⟨hx, hb, ⟨hml, rfl⟩, hown, hts, hK, hmc, hms, hA, hlk, hF, hfr, hlo, htr⟩ := K
  subst hn
  intro ad H locs cells slots ls hG hP hD hS hl hc hs
  obtain ⟨C, T, ty, h1, h2, h3, h4, h5, h6, h7, h8⟩ := hf
  refine va_new (C := C) (T := T) (N := N) (ci := ci) hx hb hts h2 ty h3 hown (hts _ h4) (hts _ h5) (hts _ h6) hK hP hD hS hA h1 (fs := fs.map (am_v ad)) (h7 ad) (by omega) (by omega) d (fun q H1 hP1 hD1 hS1 => ?_)
  have hup := am_up_lt ad w.length q
  have hfs : fs.map (am_v (am_up ad w.length q)) = fs.map (am_v ad) := am_r_fr (n := 0) (fun k hk => absurd hk (by omega)) h8
  have hw9 : am_w (am_up ad w.length q) tc (w ++ [oC ci fs]) = am_w ad tc w ++ [(q, .inr (ci, fs.map (am_v ad)))] := by
    rw [am_w_app, am_w_fr hup hfw, am_up_at]
    show _ ++ [(q, Sum.inr (ci, fs.map (am_v (am_up ad w.length q))))] = _
    rw [hfs]
  have h9 := k9 (am_up ad w.length q) H1 locs (cells + 1) (slots + N) ls (hal ad _ hG hup) (by rw [hw9]; exact hP1) (by rw [hw9]; exact hD1) hS1 (by rw [am_l_fr hup hfl]; exact hl) (by omega) (by omega)
  rw [List.map_cons, am_r_fr hup hfr9] at h9
  have e9 : am_v (am_up ad w.length q) (aR w.length) = .ref q := by
    show Value.ref (am_up ad w.length q w.length) = .ref q
    rw [am_up_at]
  rw [e9] at h9
  exact h9
theorem aw_callI {stk av : List am_V} {y : MethodName} {b : ByteArray} {maxL d0 idx k mc0 ms0 : Nat} {spec : am_S} (K : am_ok X cc own nl dd) (hal : am_al X w.length) (hM : Con y b maxL none d0 mc0 ms0 true spec) (hB : am_cB own idx y b maxL none av.length) (hI : Cond.instanceMethod y ∈ am_T) (hy1 : y.name = "<init>") (hdd : d0 + 1 ≤ dd) (dg : decode cc pc = .ok (.invokespecial idx, 3)) (hn : pc + 3 = n) (hstk : stk = av.reverse ++ aR k :: r) (hr8 : am_sz r ≤ 8) (hc1 : mc0 ≤ bc) (hc2 : ms0 ≤ bs) (hfl : lv.all (am_fo w.length) = true) (hfr9 : r.all (am_fr w.length) = true) {F : Option am_V → List am_C → Prop} (h : spec (aR k :: av) w F)
    (kk : ∀ (w' : List am_C), F none w' → AW X n lv r w' (bc - mc0) (bs - ms0)) (hno : ∀ (rv : Option am_V) (w' : List am_C), F rv w' → rv = none) : AW X pc lv stk w bc bs := by
  obtain ⟨p, l, e, R, s, m, args, below, meth, c, Q, D, tc, A, G, mc, ms, nL⟩ := X
  obtain ⟨hx, hb, ⟨hml, rfl⟩, hown, hts, hK, hmc, hms, hA, hlk, hF, hfr, hlo, htr⟩ := K
  subst hn
  intro ad H locs cells slots ls hG hP hD hS hl hc hs
  subst hstk
  have hFc : ∀ q, va_A (am_w ad tc w) H.size q → A q := by
    intro q h9
    rcases h9 with ⟨k9, e9, h9⟩ | h9
    · exact hD.2 k9 (q, e9) h9
    · exact hA q (Nat.le_trans hS.1 h9)
  have hpre : ∀ U : State, U.heap = H → s.WarmedH U.vm → am_Pre D tc ad w H.size U := fun U hU hW => ⟨by rw [hU], by rw [hU]; exact hP, va_K.moved hW.alike hK, hD.weaken (fun _ _ _ _ => trivial), hF.to hFc hW (fun q h1 h2 => by rw [hU]; exact hS.2.1 q h1 h2)⟩
  refine am_go (va_runI (As := av.map (am_v ad)) (rest := r.map (am_v ad)) (b := ad k) ⟨hx, hb, hml, hown, hts⟩ (hM l htr D tc ad (aR k :: av) w F H.size h) ⟨am_callB hts hB hdd hfr hlo, hy1, hts _ hI⟩ ⟨am_pre_blind, fun U hU hW => ⟨rfl, hpre U hU hW⟩⟩ rfl (by simp) hl.1 (by simp [am_v]) (lv_room (by rw [am_sz_eq]; exact hr8)) dg ⟨by omega, by omega⟩) hS hFc (fun rv ad' w' H1 locs1 hG' hF1 hP1 hD1 hS1 => ?_)
  have e9 := hno rv w' hF1
  subst e9
  have hup : ∀ k, k < w.length → ad' k = ad k := hG'
  have h9 := kk w' hF1 ad' H1 locs1 (cells + mc0) (slots + ms0) ls (hal ad ad' hG hup) hP1 hD1 hS1 (by rw [am_l_fr hup hfl]; exact hl) (by omega) (by omega)
  rw [am_r_fr hup hfr9] at h9
  exact h9
theorem aw_objI (K : am_ok X cc own nl dd) {idx k : Nat} (h1 : Cond.methodLink own idx Lib.objectInit ∈ am_T) (h2 : Cond.instanceMethod Lib.objectInit ∈ am_T) (h3 : Cond.code Lib.objectInit ⟨#[0xb1]⟩ 1 none ∈ am_T) (d : decode cc pc = .ok (.invokespecial idx, 3)) (hn : pc + 3 = n) (hd1 : 1 ≤ dd) (hr8 : am_sz r ≤ 8)
    (k9 : AW X n lv r w bc bs) : AW X pc lv (aR k :: r) w bc bs := by
  obtain ⟨p, l, e, R, s, m, args, below, meth, c, Q, D, tc, A, G, mc, ms, nL⟩ := X
  obtain ⟨hx, hb, ⟨hml, rfl⟩, hown, hts, hK, hmc, hms, hA, hlk, hF, hfr, hlo, htr⟩ := K
  subst hn
  intro ad H locs cells slots ls hG hP hD hS hl hc hs
  exact W.objInit hx hb hown (hts _ h1) (hts _ h2) (hts _ h3) rfl (by rw [hml]; exact hl.1) rfl d (by omega) (by show 2 * 0 + _ + 12 ≤ _; rw [am_sz_eq]; omega) (k9 ad H locs cells slots ls hG hP hD hS hl hc hs)
/-! the JDK's small members -/
def am_mm (own : String) (idx : Nat) : Prop := Cond.methodLink own idx Lib.Math.min.name ∈ am_T ∧ Cond.static Lib.Math.min.name ∈ am_T ∧ Cond.initialized "java/lang/Math" ∈ am_T ∧ Cond.code Lib.Math.min.name Lib.Math.min.code 2 (some .int) ∈ am_T
theorem aw_mmin (K : am_ok X cc own nl dd) {idx : Nat} {x y : Int32} (hm : am_mm own idx) (d : decode cc pc = .ok (.invokestatic idx, 3)) (hn : pc + 3 = n) (hr8 : am_sz r ≤ 8) (hd1 : 1 ≤ dd)
    (k9 : AW X n lv (aI (if y < x then y else x) :: r) w bc bs) : AW X pc lv (aI y :: aI x :: r) w bc bs := by
  obtain ⟨p, l, e, R, s, m, args, below, meth, c, Q, D, tc, A, G, mc, ms, nL⟩ := X
  obtain ⟨hx, hb, ⟨hml, rfl⟩, hown, hts, hK, hmc, hms, hA, hlk, hF, hfr, hlo, htr⟩ := K
  subst hn
  intro ad H locs cells slots ls hG hP hD hS hl hc hs
  exact va_mmin hx hb (by rw [hml, hl.1]) hown (hts _ hm.1) (hts _ hm.2.1) (hts _ hm.2.2.1) (hts _ hm.2.2.2) (by omega) (by rw [am_sz_eq]; omega) (by omega) (by omega) d (k9 ad H locs cells slots ls hG hP hD hS hl hc hs)
def am_mc (own : String) (idx : Nat) : Prop := Cond.methodLink own idx arraycopyName ∈ am_T ∧ Cond.native arraycopyName ∈ am_T ∧ Cond.static arraycopyName ∈ am_T ∧ Cond.initialized "java/lang/System" ∈ am_T
theorem aw_copyi (K : am_ok X cc own nl dd) {idx k0 k1 n0 n1 : Nat} {f g : Nat → Int32} {sp dp z : Int32} {w' : List am_C} (hm : am_mc own idx) (d : decode cc pc = .ok (.invokestatic idx, 3)) (hn : pc + 3 = n) (hw0 : w[k0]? = some (iC n0 f)) (hw1 : w[k1]? = some (iC n1 g)) (h1 : ¬ sp < 0) (h2 : ¬ dp < 0) (h3 : ¬ z < 0) (h4 : sp.toNatClampNeg + z.toNatClampNeg ≤ n0) (h5 : dp.toNatClampNeg + z.toNatClampNeg ≤ n1) (hr8 : am_sz r ≤ 8) (hd1 : 1 ≤ dd) (hw' : w.set k1 (iC n1 (va_cpy f g sp.toNatClampNeg dp.toNatClampNeg z.toNatClampNeg)) = w')
    (k9 : AW X n lv r w' bc bs) : AW X pc lv (aI z :: aI dp :: aR k1 :: aI sp :: aR k0 :: r) w bc bs := by
  obtain ⟨p, l, e, R, s, m, args, below, meth, c, Q, D, tc, A, G, mc, ms, nL⟩ := X
  obtain ⟨hx, hb, ⟨hml, rfl⟩, hown, hts, hK, hmc, hms, hA, hlk, hF, hfr, hlo, htr⟩ := K
  subst hn
  intro ad H locs cells slots ls hG hP hD hS hl hc hs
  subst hw'
  have hfw : nativeFrameWords "java/lang/System" "arraycopy" 5 + 11 ≤ 32 := by decide
  exact va_copyi hx hb (by rw [hml, hl.1]) hown (hts _ hm.1) (hts _ hm.2.1) (hts _ hm.2.2.1) (hts _ hm.2.2.2) hK hP hD hS k0 k1 0 0 (am_w_at hw0) (am_w_at hw1) rfl rfl rfl h1 h2 h3 h4 h5 (fun _ _ => rfl) (by omega) (by rw [am_sz_eq]; omega) d (fun H1 locs1 hP1 hD1 hS1 => k9 ad H1 locs1 cells slots ls hG (by rw [am_w_set]; exact hP1) (by rw [am_w_set]; exact hD1) hS1 hl hc hs)
/-! the static table -/
theorem aw_tabLen (K : am_ok X cc own nl dd) {idx : Nat} (hm : Cond.fieldLink own idx "StateExplore" "NUMBERINGS" "[I" ∈ am_T) (d : decode cc pc = .ok (.getstatic idx, 3)) (d1 : decode cc (pc + 3) = .ok (.arraylength, 1)) (hn : pc + 3 + 1 = n)
    (k9 : AW X n lv (aI 24 :: r) w bc bs) : AW X pc lv r w bc bs := by
  obtain ⟨p, l, e, R, s, m, args, below, meth, c, Q, D, tc, A, G, mc, ms, nL⟩ := X
  obtain ⟨hx, hb, ⟨hml, rfl⟩, hown, hts, hK, hmc, hms, hA, hlk, hF, hfr, hlo, htr⟩ := K
  subst hn
  intro ad H locs cells slots ls hG hP hD hS hl hc hs
  obtain ⟨-, -, ⟨t, hZ, hT⟩, -⟩ := hF
  refine va_gets hx hb hZ hS hown (hts _ hm) (fun _ h => h) d ?_
  exact va_tlen hx hb hT hS rfl d1 (k9 ad H locs cells slots ls hG hP hD hS hl hc hs)

theorem aw_tabNN (K : am_ok X cc own nl dd) {idx : Nat} {host : String} {z : Nat} {x : Int32} (hm : (own, idx, "StateExplore", "NUMBERINGS", "[I", host) ∈ am_NF) (d : decode cc pc = .ok (.getstatic idx, 3)) (d1 : decode cc (pc + 3) = .ok (.iload z, 2)) (d2 : decode cc (pc + 3 + 2) = .ok (.iaload, 1)) (hn : pc + 3 + 2 + 1 = n) (hv : lv[z]? = some (some (aI x))) (hi : vp_in x 24)
    (k9 : AW X n lv (aI (am_num x.toNatClampNeg) :: r) w bc bs) : AW X pc lv r w bc bs := by
  obtain ⟨p, l, e, R, s, m, args, below, meth, c, Q, D, tc, A, G, mc, ms, nL⟩ := X
  obtain ⟨hx, hb, ⟨hml, rfl⟩, hown, hts, hK, hmc, hms, hA, hlk, hF, hfr, hlo, htr⟩ := K
  subst hn
  intro ad H locs cells slots ls hG hP hD hS hl hc hs
  obtain ⟨-, hN, ⟨t, hZ, hT⟩, -⟩ := hF
  refine va_getsN hx hb hZ hS hown (va_Nw.use rfl (hN _ hm)) (fun _ h => h) d ?_
  refine lv_iload hx hb d1 (am_get hl hv) ?_
  exact va_ti hx hb hT hS hi rfl d2 (k9 ad H locs cells slots ls hG hP hD hS hl hc hs)
theorem aw_tabN_nN (K : am_ok X cc own nl dd) {idx : Nat} {host : String} {z : Fin 4} {x : Int32} (hm : (own, idx, "StateExplore", "NUMBERINGS", "[I", host) ∈ am_NF) (d : decode cc pc = .ok (.getstatic idx, 3)) (d1 : decode cc (pc + 3) = .ok (.iload_n z, 1)) (d2 : decode cc (pc + 3 + 1) = .ok (.iaload, 1)) (hn : pc + 3 + 1 + 1 = n) (hv : lv[(z : Nat)]? = some (some (aI x))) (hi : vp_in x 24)
    (k9 : AW X n lv (aI (am_num x.toNatClampNeg) :: r) w bc bs) : AW X pc lv r w bc bs := by
  obtain ⟨p, l, e, R, s, m, args, below, meth, c, Q, D, tc, A, G, mc, ms, nL⟩ := X
  obtain ⟨hx, hb, ⟨hml, rfl⟩, hown, hts, hK, hmc, hms, hA, hlk, hF, hfr, hlo, htr⟩ := K
  subst hn
  intro ad H locs cells slots ls hG hP hD hS hl hc hs
  obtain ⟨-, hN, ⟨t, hZ, hT⟩, -⟩ := hF
  refine va_getsN hx hb hZ hS hown (va_Nw.use rfl (hN _ hm)) (fun _ h => h) d ?_
  refine lv_iload_n hx hb d1 rfl (am_get hl hv) ?_
  exact va_ti hx hb hT hS hi rfl d2 (k9 ad H locs cells slots ls hG hP hD hS hl hc hs)
end AME

/-! ===== THE SPECIFICATION: what was told (sp_R), what was explored (sp_E), and the exploring ===== -/
-- nodes, states, kinds, rules; of a rule: from, one more than the event (0: by itself), to, how many it sends; kind and whom at 4 r + i; bad pairs
abbrev sp_R : Type := Nat × Nat × Nat × Nat × (Nat → Nat) × (Nat → Nat) × (Nat → Nat) × (Nat → Nat) × (Nat → Nat) × (Nat → Nat) × (Nat → Nat → Bool)
abbrev rN (R : sp_R) : Nat := R.1
abbrev rS (R : sp_R) : Nat := R.2.1
abbrev rK (R : sp_R) : Nat := R.2.2.1
abbrev rU (R : sp_R) : Nat := R.2.2.2.1
abbrev rF (R : sp_R) : Nat → Nat := R.2.2.2.2.1
abbrev rV (R : sp_R) : Nat → Nat := R.2.2.2.2.2.1
abbrev rT (R : sp_R) : Nat → Nat := R.2.2.2.2.2.2.1
abbrev rC (R : sp_R) : Nat → Nat := R.2.2.2.2.2.2.2.1
abbrev rk (R : sp_R) : Nat → Nat := R.2.2.2.2.2.2.2.2.1
abbrev rW (R : sp_R) : Nat → Nat := R.2.2.2.2.2.2.2.2.2.1
abbrev rB (R : sp_R) : Nat → Nat → Bool := R.2.2.2.2.2.2.2.2.2.2
-- size, gone, steps, old, stuck, ending (0 going on, 1 no room, 2 bad); of a whole: form, level, one more than its origin, than its rule, than its steps; symmetries
abbrev sp_E : Type := Nat × Nat × Nat × Nat × Nat × Nat × (Nat → Nat) × (Nat → Nat) × (Nat → Nat) × (Nat → Nat) × (Nat → Nat) × (Nat → Nat)
abbrev eZ (E : sp_E) : Nat := E.1
abbrev eG (E : sp_E) : Nat := E.2.1
abbrev eT (E : sp_E) : Nat := E.2.2.1
abbrev eO (E : sp_E) : Nat := E.2.2.2.1
abbrev eK (E : sp_E) : Nat := E.2.2.2.2.1
abbrev eN (E : sp_E) : Nat := E.2.2.2.2.2.1
abbrev eF (E : sp_E) : Nat → Nat := E.2.2.2.2.2.2.1
abbrev eL (E : sp_E) : Nat → Nat := E.2.2.2.2.2.2.2.1
abbrev eP (E : sp_E) : Nat → Nat := E.2.2.2.2.2.2.2.2.1
abbrev eR (E : sp_E) : Nat → Nat := E.2.2.2.2.2.2.2.2.2.1
abbrev eS (E : sp_E) : Nat → Nat := E.2.2.2.2.2.2.2.2.2.2.1
abbrev eY (E : sp_E) : Nat → Nat := E.2.2.2.2.2.2.2.2.2.2.2
def upN (f : Nat → Nat) (k x : Nat) : Nat → Nat := fun j => if j = k then x else f j
theorem upN_s (f : Nat → Nat) (k x : Nat) : upN f k x k = x := if_pos rfl
theorem upN_n (f : Nat → Nat) {k j : Nat} (x : Nat) (h : j ≠ k) : upN f k x j = f j := if_neg h
/-- a bad pair stands in two nodes -/
def sp_bw (N : Nat) (bad : Nat → Nat → Bool) (st : Nat → Nat) : Bool := (List.range N).any (fun i => (List.range N).any (fun j => !(i == j) && bad (st i) (st j)))
/-- how many a rule sends, and what, by a node, to a sender -/
def sp_gw (R : sp_R) (r : Nat) : Nat → Nat
  | 0 => 0
  | n + 1 => sp_gw R r n + (if rW R (4 * r + n) = 0 then 1 else rN R - 1)
def sp_s1 (R : sp_R) (node p sender : Nat) : List Nat := if rW R p = 0 then [16 * rk R p + 4 * node + sender] else ((List.range (rN R)).filter (fun t => !(t == node))).map (fun t => 16 * rk R p + 4 * node + t)
def sp_sn (R : sp_R) (node r sender : Nat) : Nat → List Nat
  | 0 => []
  | n + 1 => sp_sn R node r sender n ++ sp_s1 R node (4 * r + n) sender
/-- behind a step: the states, the codes (recv: one more than the place of the code received, 0 by itself) -/
def sp_ns (R : sp_R) (f node r : Nat) : Nat → Nat := upN (sp_st f) node (rT R r)
def sp_nc (R : sp_R) (f node r recv : Nat) : List Nat := (if recv = 0 then sp_cs f else (sp_cs f).eraseIdx (recv - 1)) ++ sp_sn R node r ((sp_cs f).getD (recv - 1) 0 / 4 % 4) (rC R r)
/-- a whole more -/
def sp_tk (R : sp_R) (E : sp_E) (st : Nat → Nat) (cs : List Nat) (par rul : Nat) : sp_E :=
  (eZ E + 1, eG E, eT E, eO E, eK E, if sp_bw (rN R) (rB R) st then 2 else eN E, upN (eF E) (eZ E) (sp_can (rN R) st cs), upN (eL E) (eZ E) (if par = 0 then 0 else eL E (par - 1) + 1), upN (eP E) (eZ E) par, upN (eR E) (eZ E) rul, upN (eS E) (eZ E) 0, upN (eY E) (eZ E) (sp_sym (rN R) st cs))
def sp_is (E : sp_E) (k : Nat) : Bool := (List.range (eZ E)).any (fun i => eF E i == k)
abbrev sp_S : Type := sp_E × Nat
/-- a step that can be made -/
def sp_mk (R : sp_R) (room f node r recv : Nat) (s : sp_S) : sp_S := match s.1 with
  | (z, g, t, o, k, n, F, L, P, U, S, Y) =>
    if sp_is s.1 (sp_can (rN R) (sp_ns R f node r) (sp_nc R f node r recv)) then ((z, g, t + 1, o + 1, k, n, F, L, P, U, S, Y), s.2 + 1)
    else if z = room then ((z, g, t + 1, o, k, 1, F, L, P, U, S, Y), s.2 + 1)
    else (sp_tk R (z, g, t + 1, o, k, n, F, L, P, U, S, Y) (sp_ns R f node r) (sp_nc R f node r recv) (g + 1) (r + 1), s.2 + 1)
/-- by each code that there is for it, from place i on -/
def sp_tc (R : sp_R) (room f node r : Nat) : Nat → Nat → sp_S → sp_S
  | 0, _, s => s
  | t + 1, i, s => if eN s.1 = 0 then sp_tc R room f node r t (i + 1) (if (i = 0 ∨ (sp_cs f).getD (i - 1) 0 ≠ (sp_cs f).getD i 0) ∧ (sp_cs f).getD i 0 / 16 + 1 = rV R r ∧ (sp_cs f).getD i 0 % 4 = node then sp_mk R room f node r (i + 1) s else s) else s
def sp_tr (R : sp_R) (room f node r : Nat) (s : sp_S) : sp_S :=
  if sp_st f node = rF R r ∧ sp_n f + sp_gw R r (rC R r) ≤ (if rV R r = 0 then 7 else 8) then (if rV R r = 0 then sp_mk R room f node r 0 s else sp_tc R room f node r (sp_n f) 0 s) else s
def sp_gr (R : sp_R) (room f node : Nat) : Nat → Nat → sp_S → sp_S
  | 0, _, s => s
  | t + 1, r, s => if eN (sp_tr R room f node r s).1 = 0 then sp_gr R room f node t (r + 1) (sp_tr R room f node r s) else sp_tr R room f node r s
def sp_gn (R : sp_R) (room f : Nat) : Nat → Nat → sp_S → sp_S
  | 0, _, s => s
  | t + 1, i, s => if eN (sp_gr R room f i (rU R) 0 s).1 = 0 then sp_gn R room f t (i + 1) (sp_gr R room f i (rU R) 0 s) else sp_gr R room f i (rU R) 0 s
/-- the whole 'gone' is gone through -/
def sp_fin (s : sp_S) : sp_E := match s.1 with
  | (z, g, t, o, k, n, F, L, P, U, S, Y) => (z, g + 1, t, o, if s.2 = 0 then k + 1 else k, n, F, L, P, U, upN S g (s.2 + 1), Y)
def sp_gt (R : sp_R) (room : Nat) (E : sp_E) : sp_E :=
  if eN (sp_gn R room (eF E (eG E)) (rN R) 0 (E, 0)).1 = 0 then sp_fin (sp_gn R room (eF E (eG E)) (rN R) 0 (E, 0)) else (sp_gn R room (eF E (eG E)) (rN R) 0 (E, 0)).1
def sp_on (R : sp_R) (room : Nat) : Nat → sp_E → sp_E
  | 0, E => E
  | n + 1, E => if eN E = 0 ∧ eG E < eZ E then sp_on R room n (sp_gt R room E) else E
def sp_E0 (F L P U S Y : Nat → Nat) : sp_E := (0, 0, 0, 0, 0, 0, F, L, P, U, S, Y)
def sp_bg (R : sp_R) (E : sp_E) : sp_E := if eZ E = 0 then sp_tk R E (fun _ => 0) [] 0 0 else E

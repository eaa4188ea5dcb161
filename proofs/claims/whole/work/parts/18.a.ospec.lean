/-! ===== THE FACE'S SPECIFICATION: of each call the answer (0 and a value, or 1, 2: which throw) and what is told and explored behind it ===== -/
abbrev o_in (a : Int32) (n : Nat) : Prop := 0 ≤ a ∧ a < nI n
abbrev o_T : Type := (Nat × Int32) × sp_R × sp_E
abbrev o_E0 (E : sp_E) : sp_E := sp_E0 (eF E) (eL E) (eP E) (eR E) (eS E) (eY E)
abbrev rS1 (R : sp_R) : sp_R := (rN R, rS R + 1, rK R, rU R, rF R, rV R, rT R, rC R, rk R, rW R, rB R)
abbrev rK1 (R : sp_R) : sp_R := (rN R, rS R, rK R + 1, rU R, rF R, rV R, rT R, rC R, rk R, rW R, rB R)
abbrev r_rule (R : sp_R) (a b c : Nat) : sp_R := (rN R, rS R, rK R, rU R + 1, upN (rF R) (rU R) a, upN (rV R) (rU R) b, upN (rT R) (rU R) c, upN (rC R) (rU R) 0, rk R, rW R, rB R)
abbrev r_send (R : sp_R) (r k t : Nat) : sp_R := (rN R, rS R, rK R, rU R, rF R, rV R, rT R, upN (rC R) r (rC R r + 1), upN (rk R) (4 * r + rC R r) k, upN (rW R) (4 * r + rC R r) t, rB R)
abbrev r_bad (R : sp_R) (a b : Nat) : sp_R := (rN R, rS R, rK R, rU R, rF R, rV R, rT R, rC R, rk R, rW R, fun x y => rB R x y || ((x == a && y == b) || (x == b && y == a)))
def o_state (R : sp_R) (E : sp_E) : o_T := if 8 ≤ rS R then ((1, 0), R, E) else ((0, nI (rS R)), rS1 R, o_E0 E)
def o_message (R : sp_R) (E : sp_E) : o_T := if 6 ≤ rK R then ((1, 0), R, E) else ((0, nI (rK R)), rK1 R, o_E0 E)
abbrev o_rule1 (R : sp_R) (a b c : Int32) : Prop := ¬ o_in a (rS R) ∨ ¬ o_in c (rS R) ∨ (b ≠ (-1) ∧ ¬ o_in b (rK R))
def o_rule (R : sp_R) (E : sp_E) (a b c : Int32) : o_T := if o_rule1 R a b c then ((1, 0), R, E) else if 40 ≤ rU R then ((2, 0), R, E) else ((0, nI (rU R)), r_rule R a.toNatClampNeg (b + 1).toNatClampNeg c.toNatClampNeg, o_E0 E)
abbrev o_sends1 (R : sp_R) (r k t : Int32) : Prop := ¬ o_in r (rU R) ∨ ¬ o_in k (rK R) ∨ ¬ o_in t 2 ∨ (t = 0 ∧ rV R r.toNatClampNeg = 0)
def o_sends (R : sp_R) (E : sp_E) (r k t : Int32) : o_T := if o_sends1 R r k t then ((1, 0), R, E) else if 4 ≤ rC R r.toNatClampNeg then ((2, 0), R, E) else ((0, nI (rC R r.toNatClampNeg + 1)), r_send R r.toNatClampNeg k.toNatClampNeg t.toNatClampNeg, o_E0 E)
abbrev o_bad1 (R : sp_R) (a b : Int32) : Prop := ¬ o_in a (rS R) ∨ ¬ o_in b (rS R)
def o_bad (R : sp_R) (E : sp_E) (a b : Int32) : o_T := if o_bad1 R a b then ((1, 0), R, E) else if rB R a.toNatClampNeg b.toNatClampNeg = true then ((0, 0), R, E) else ((0, 1), r_bad R a.toNatClampNeg b.toNatClampNeg, o_E0 E)
def o_run (R : sp_R) (room : Nat) (E : sp_E) : sp_E := sp_on R room 8192 (sp_bg R E)
def o_runv (E : sp_E) : Int32 := if eN E = 0 then nI (eZ E) else rc_en (eN E)
abbrev o_go1 (n : Int32) : Prop := n < 1 ∨ 1000 < n
def o_go (R : sp_R) (room : Nat) (E : sp_E) (n : Int32) : o_T := if o_go1 n then ((1, 0), R, E) else ((0, nI (eZ (sp_on R room n.toNatClampNeg (sp_bg R E)))), R, sp_on R room n.toNatClampNeg (sp_bg R E))
abbrev o_node1 (R : sp_R) (E : sp_E) (k i : Int32) : Prop := ¬ o_in k (eZ E) ∨ ¬ o_in i (rN R)
def o_node (R : sp_R) (E : sp_E) (k i : Int32) : Nat × Int32 := if o_node1 R E k i then (1, 0) else (0, nI (sp_st (eF E k.toNatClampNeg) i.toNatClampNeg))
abbrev o_code1 (E : sp_E) (k i : Int32) : Prop := ¬ o_in k (eZ E) ∨ ¬ o_in i (sp_n (eF E k.toNatClampNeg))
def o_code (E : sp_E) (k i : Int32) : Nat × Int32 := if o_code1 E k i then (1, 0) else (0, nI ((sp_cs (eF E k.toNatClampNeg)).getD i.toNatClampNeg 0))
abbrev o_whole1 (E : sp_E) (k i : Int32) : Prop := ¬ o_in k (eZ E) ∨ ¬ o_in i 6
def o_wholev (E : sp_E) (k : Nat) (i : Int32) : Int32 := if i = 0 then nI (sp_n (eF E k)) else if i = 1 then nI (eL E k) else if i = 2 then nI (eP E k) - 1 else if i = 3 then nI (eR E k) - 1 else if i = 4 then nI (eS E k) - 1 else nI (eY E k)
def o_whole (E : sp_E) (k i : Int32) : Nat × Int32 := if o_whole1 E k i then (1, 0) else (0, o_wholev E k.toNatClampNeg i)
def o_way (E : sp_E) : Int32 := if eN E = 2 then nI (eL E (eZ E - 1)) else (-1)
abbrev o_wayAt1 (E : sp_E) (i : Int32) : Prop := ¬ eN E = 2 ∨ ¬ o_in i (eL E (eZ E - 1) + 1)
/-- from the whole k on up to one of at most level i -/
def sp_wy (E : sp_E) (i : Nat) : Nat → Nat → Nat
  | 0, k => k
  | t + 1, k => if eL E k ≤ i then k else sp_wy E i t (eP E k - 1)
def o_wayAt (E : sp_E) (i : Int32) : Nat × Int32 := if o_wayAt1 E i then (1, 0) else (0, nI (sp_wy E i.toNatClampNeg (eZ E) (eZ E - 1)))
def o_lev (E : sp_E) : Int32 := if eZ E = 0 then (-1) else nI (eL E (eZ E - 1))
def o_count (R : sp_R) (E : sp_E) (i : Int32) : Int32 := if i = 0 then nI (rN R) else if i = 1 then nI (rS R) else if i = 2 then nI (rK R) else if i = 3 then nI (rU R) else if i = 4 then nI (eZ E) else if i = 5 then nI (eG E) else if i = 6 then o_lev E else if i = 7 then nI (eT E) else if i = 8 then nI (eO E) else if i = 9 then nI (eK E) else if i = 10 then nI (rc_sd (sp_fc (rN R)) (eY E) (eZ E)) else (-1)
theorem o_in_nat {a : Int32} {n : Nat} (hn : n < 2 ^ 31) (h : o_in a n) : a = nI a.toNatClampNeg ∧ a.toNatClampNeg < n := by
  have h1 : (0 : Int32).toInt ≤ a.toInt := Int32.le_iff_toInt_le.mp h.1
  have z : (0 : Int32).toInt = 0 := by decide
  have h2 : a.toInt < (nI n).toInt := Int32.lt_iff_toInt_lt.mp h.2
  rw [nI_toInt hn] at h2
  have e : a.toNatClampNeg = a.toInt.toNat := rfl
  refine ⟨?_, by omega⟩
  apply Int32.toInt_inj.mp
  rw [nI_toInt (by omega)]
  omega
theorem o_in_of {k n : Nat} (hn : n < 2 ^ 31) (h : k < n) : o_in (nI k) n := ⟨nI_pos' (by omega), nI_lt h hn⟩
/-! what holds stays -/
theorem rv_S1 {R : sp_R} (h : rv R) (h8 : rS R < 8) : rv (rS1 R) := by
  obtain ⟨⟨a1, a2, a3, a4, a5⟩, b, c⟩ := h
  refine ⟨⟨a1, a2, by show rS R + 1 ≤ 8; omega, a4, a5⟩, fun r hr => ?_, c⟩
  obtain ⟨b1, b2, b3, b4, b5⟩ := b r hr
  exact ⟨by show rF R r < rS R + 1; omega, b2, by show rT R r < rS R + 1; omega, b4, b5⟩
theorem rv_K1 {R : sp_R} (h : rv R) (h8 : rK R < 6) : rv (rK1 R) := by
  obtain ⟨⟨a1, a2, a3, a4, a5⟩, b, c⟩ := h
  refine ⟨⟨a1, a2, a3, by show rK R + 1 ≤ 6; omega, a5⟩, fun r hr => ?_, c⟩
  obtain ⟨b1, b2, b3, b4, b5⟩ := b r hr
  refine ⟨b1, by show rV R r ≤ rK R + 1; omega, b3, b4, fun i hi => ?_⟩
  obtain ⟨q1, q2, q3⟩ := b5 i hi
  exact ⟨q1, by show rk R (4 * r + i) < rK R + 1; omega, q3⟩
theorem rv_rule {R : sp_R} {a b c : Nat} (h : rv R) (hu : rU R < 40) (ha : a < rS R) (hb : b ≤ rK R) (hc : c < rS R) : rv (r_rule R a b c) := by
  obtain ⟨⟨a1, a2, a3, a4, a5⟩, q, qc⟩ := h
  refine ⟨⟨a1, a2, a3, a4, by show rU R + 1 ≤ 40; omega⟩, fun r hr => ?_, qc⟩
  have hr' : r < rU R + 1 := hr
  show upN (rF R) (rU R) a r < rS R ∧ upN (rV R) (rU R) b r ≤ rK R ∧ upN (rT R) (rU R) c r < rS R ∧ upN (rC R) (rU R) 0 r ≤ 4 ∧ ∀ i, i < upN (rC R) (rU R) 0 r → rW R (4 * r + i) < 2 ∧ rk R (4 * r + i) < rK R ∧ (upN (rV R) (rU R) b r = 0 → rW R (4 * r + i) = 1)
  by_cases e : r = rU R
  · rw [e, upN_s, upN_s, upN_s, upN_s]
    exact ⟨ha, hb, hc, by omega, fun i hi => by omega⟩
  · rw [upN_n _ _ e, upN_n _ _ e, upN_n _ _ e, upN_n _ _ e]
    exact q r (by omega)
theorem rv_send {R : sp_R} {r0 k t : Nat} (h : rv R) (hr0 : r0 < rU R) (hk : k < rK R) (ht : t < 2) (hc : rC R r0 < 4) (hv : t = 0 → rV R r0 ≠ 0) : rv (r_send R r0 k t) := by
  obtain ⟨⟨a1, a2, a3, a4, a5⟩, q, qc⟩ := h
  refine ⟨⟨a1, a2, a3, a4, a5⟩, fun r hr => ?_, qc⟩
  obtain ⟨b1, b2, b3, b4, b5⟩ := q r hr
  refine ⟨b1, b2, b3, ?_, fun i hi => ?_⟩
  · show upN (rC R) r0 (rC R r0 + 1) r ≤ 4
    by_cases e : r = r0
    · rw [e, upN_s]; omega
    · rw [upN_n _ _ e]; exact b4
  · have hi' : i < upN (rC R) r0 (rC R r0 + 1) r := hi
    show upN (rW R) (4 * r0 + rC R r0) t (4 * r + i) < 2 ∧ upN (rk R) (4 * r0 + rC R r0) k (4 * r + i) < rK R ∧ (rV R r = 0 → upN (rW R) (4 * r0 + rC R r0) t (4 * r + i) = 1)
    by_cases e : r = r0
    · subst e
      rw [upN_s] at hi'
      by_cases e2 : i = rC R r
      · rw [e2, upN_s, upN_s]
        exact ⟨ht, hk, fun h0 => by rcases Nat.eq_zero_or_pos t with z | z; exact absurd h0 (hv z); omega⟩
      · rw [upN_n _ _ (by omega), upN_n _ _ (by omega)]
        exact b5 i (by omega)
    · rw [upN_n _ _ e] at hi'
      rw [upN_n _ _ (by omega), upN_n _ _ (by omega)]
      exact b5 i hi'
theorem rv_bad {R : sp_R} {a b : Nat} (h : rv R) : rv (r_bad R a b) := by
  obtain ⟨h1, h2, h3⟩ := h
  refine ⟨h1, h2, fun x y => ?_⟩
  show (rB R x y || ((x == a && y == b) || (x == b && y == a))) = (rB R y x || ((y == a && x == b) || (y == b && x == a)))
  rw [h3 x y]
  cases rB R y x <;> cases (x == a) <;> cases (y == b) <;> cases (x == b) <;> cases (y == a) <;> rfl
theorem gw_congr {R R' : sp_R} {r : Nat} (hN : rN R' = rN R) : ∀ n, (∀ i, i < n → rW R' (4 * r + i) = rW R (4 * r + i)) → sp_gw R' r n = sp_gw R r n := by
  intro n
  induction n with
  | zero => intro _; rfl
  | succ n ih =>
    intro h
    show sp_gw R' r n + (if rW R' (4 * r + n) = 0 then 1 else rN R' - 1) = sp_gw R r n + (if rW R (4 * r + n) = 0 then 1 else rN R - 1)
    rw [ih (fun i hi => h i (by omega)), h n (by omega), hN]
/-- none explored: nothing counted -/
def ez (E : sp_E) : Prop := eZ E = 0 → eG E = 0 ∧ eT E = 0 ∧ eO E = 0 ∧ eK E = 0 ∧ eN E = 0
theorem ez_0 (F L P U S Y : Nat → Nat) : ez (sp_E0 F L P U S Y) := fun _ => ⟨rfl, rfl, rfl, rfl, rfl⟩
theorem gt_Z (R : sp_R) (room : Nat) (E : sp_E) (hU : rU R ≤ 40) : eZ E ≤ eZ (sp_gt R room E) := by
  have h := (gn_g R room (eF E (eG E)) hU (rN R) 0 (E, 0)).2.1
  unfold sp_gt
  by_cases q : eN (sp_gn R room (eF E (eG E)) (rN R) 0 (E, 0)).1 = 0
  · rw [if_pos q]; exact h
  · rw [if_neg q]; exact h
theorem on_Z (R : sp_R) (room : Nat) (hU : rU R ≤ 40) : ∀ (n : Nat) (E : sp_E), eZ E ≤ eZ (sp_on R room n E) := by
  intro n
  induction n with
  | zero => intro E; exact Nat.le_refl _
  | succ n ih =>
    intro E
    unfold sp_on
    by_cases q : eN E = 0 ∧ eG E < eZ E
    · rw [if_pos q]; exact Nat.le_trans (gt_Z R room E hU) (ih _)
    · rw [if_neg q]; exact Nat.le_refl _
theorem ez_on (R : sp_R) (room n : Nat) (E : sp_E) (hU : rU R ≤ 40) : ez (sp_on R room n (sp_bg R E)) := by
  intro h
  have h1 := on_Z R room hU n (sp_bg R E)
  have h2 : 0 < eZ (sp_bg R E) := by
    unfold sp_bg
    by_cases q : eZ E = 0
    · rw [if_pos q]; exact Nat.succ_pos _
    · rw [if_neg q]; omega
  omega

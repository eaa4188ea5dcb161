/-! ===== THE REFERENCE's world; forget, come, begin ===== -/
def rm_A (R : sp_R) (xf xe xt xn xk xw xb : Nat → Int32) : Prop :=
  (∀ r, r < rU R → xf r = nI (rF R r) ∧ xe r = nI (rV R r) - 1 ∧ xt r = nI (rT R r) ∧ xn r = nI (rC R r) ∧ ∀ i, i < rC R r → xk (4 * r + i) = nI (rk R (4 * r + i)) ∧ xw (4 * r + i) = nI (rW R (4 * r + i))) ∧
  (∀ a b, a < 8 → b < 8 → xb (8 * a + b) = if rB R a b = true then 1 else 0)
def rm_O (E : sp_E) (od : Nat → Int32) (o : Nat → Nat) : Prop := (∀ i, i < eZ E → od i = nI (o i) ∧ o i < eZ E) ∧ (∀ i j, i < j → j < eZ E → sp_rk (eF E (o i)) < sp_rk (eF E (o j))) ∧ (∀ k, k < eZ E → ∃ i, i < eZ E ∧ o i = k)
def rm_S (E : sp_E) (ro le pa br so al : Nat → Int32) : Prop := ∀ k, k < eZ E → rw_is ro (12 * k) (eF E k) ∧ le k = nI (eL E k) ∧ pa k = nI (eP E k) - 1 ∧ br k = nI (eR E k) - 1 ∧ so k = nI (eS E k) - 1 ∧ al k = nI (eY E k)
/-- the reference's world: R told, E explored; the rows next and least, and where 'least' belongs -/
def rq (R : sp_R) (room : Nat) (E : sp_E) (th sm at9 : Int32) (o : Nat → Nat) (nx ls : Nat → Int32) (w : List am_C) : Prop :=
  ∃ (bw : Int32) (xf xe xt xn xk xw xb nm ro od le pa br so al ot : Nat → Int32), w = [cRM th (nI (rN R)) (nI room) (nI (rS R)) (nI (rK R)) (nI (rU R)) (nI (sp_fc (rN R))) (nI (eZ E)) (nI (eG E)) (nI (eT E)) (nI (eO E)) (nI (eK E)) (rc_en (eN E)) bw sm at9, iC 40 xf, iC 40 xe, iC 40 xt, iC 40 xn, iC 160 xk, iC 160 xw, zC 64 xb, iC 96 nm, iC 98304 ro, iC 8192 od, iC 8192 le, iC 8192 pa, iC 8192 br, iC 8192 so, iC 8192 al, iC 12 nx, iC 12 ot, iC 12 ls] ∧ rv R ∧ ev R room E ∧ (1 ≤ room ∧ room ≤ 8192) ∧ rm_A R xf xe xt xn xk xw xb ∧ rm_N (rN R) nm ∧ rm_S E ro le pa br so al ∧ rm_O E od o ∧ (eN E = 2 → bw = nI (eZ E - 1))
def rm (R : sp_R) (room : Nat) (E : sp_E) (th : Int32) (w : List am_C) : Prop := ∃ (sm at9 : Int32) (o : Nat → Nat) (nx ls : Nat → Int32), rq R room E th sm at9 o nx ls w
theorem rq_vs {R : sp_R} {room : Nat} {E : sp_E} {th sm at9 : Int32} {o : Nat → Nat} {nx ls : Nat → Int32} {w : List am_C} (h : rq R room E th sm at9 o nx ls w) : rv R ∧ ev R room E ∧ (1 ≤ room ∧ room ≤ 8192) ∧ w.length = 19 := by
  obtain ⟨bw, xf, xe, xt, xn, xk, xw, xb, nm, ro, od, le, pa, br, so, al, ot, rfl, h1, h2, h3, -⟩ := h
  exact ⟨h1, h2, h3, rfl⟩
theorem rm_vs {R : sp_R} {room : Nat} {E : sp_E} {th : Int32} {w : List am_C} (h : rm R room E th w) : rv R ∧ ev R room E ∧ (1 ≤ room ∧ room ≤ 8192) ∧ w.length = 19 := by
  obtain ⟨sm, at9, o, nx, ls, h⟩ := h
  exact rq_vs h
def sp_RM_forget : am_S := fun av w post => ∃ (R : sp_R) (room : Nat) (E : sp_E) (th : Int32), av = [aR 0] ∧ w.length = 19 ∧ (rm R room E th w) ∧ (∀ w' : List am_C, rm R room (o_E0 E) th w' → post none w')
set_option maxRecDepth 20000 in
set_option maxHeartbeats 2000000 in
theorem c_RM_forget : Con y_RM_forget b_RM_forget 1 none 0 0 0 false sp_RM_forget := by
  refine Con.of (by decide) (fun av w post h => by obtain ⟨R, room, E, th, rfl, -⟩ := h; exact Nat.le_of_ble_eq_true rfl) ?_
  intro X K hnm av w post h hr _
  obtain ⟨R, room, E, th, rfl, hlen, hw, hp⟩ := h
  obtain ⟨c0, c1, c2, c3, c4, c5, c6, c7, c8, c9, c10, c11, c12, c13, c14, c15, c16, c17, c18, rfl⟩ := len19 hlen
  obtain ⟨sm, at9, o, nx, ls, bw, xf, xe, xt, xn, xk, xw, xb, nm, ro, od, le, pa, br, so, al, ot, hwe, hR, hE, hro, hA, hN, hS, hO, hbw⟩ := hw
  rw [hwe]
  clear hwe
  refine x_RM_forget_0 K hr ?_
  exact hp _ ⟨sm, at9, o, nx, ls, (-1), xf, xe, xt, xn, xk, xw, xb, nm, ro, od, le, pa, br, so, al, ot, rfl, hR, ev_E0 _ _ _ _ _ _ _ _, hro, hA, hN, fun k h => absurd h (Nat.not_lt_zero _), ⟨fun k h => absurd h (Nat.not_lt_zero _), fun i j _ h => absurd h (Nat.not_lt_zero _), fun k h => absurd h (Nat.not_lt_zero _)⟩, fun h => absurd (show 0 = 2 from h) (by omega)⟩
/-- the order with one more at place a -/
def od_in (o : Nat → Nat) (a Z : Nat) (j : Nat) : Nat := if j < a then o j else if j = a then Z else o (j - 1)
theorem rm_O_tk {R : sp_R} {E : sp_E} {st : Nat → Nat} {cs : List Nat} {par rul a g : Nat} {od od' : Nat → Int32} {o : Nat → Nat} (hg : g = sp_can (rN R) st cs) (h : rm_O E od o) (ha : a ≤ eZ E) (h1 : ∀ i, i < a → sp_rk (eF E (o i)) < sp_rk g) (h2 : ∀ i, a ≤ i → i < eZ E → sp_rk g < sp_rk (eF E (o i)))
    (hod : ∀ j, j < eZ E + 1 → od' j = if j < a then od j else if j = a then nI (eZ E) else od (j - 1)) : rm_O (sp_tk R E st cs par rul) od' (od_in o a (eZ E)) := by
  obtain ⟨q1, q2, q3⟩ := h
  have zz : eZ (sp_tk R E st cs par rul) = eZ E + 1 := rfl
  have ff : ∀ k, eF (sp_tk R E st cs par rul) k = upN (eF E) (eZ E) g k := fun k => by rw [hg]; rfl
  have fo : ∀ j, j < eZ E + 1 → eF (sp_tk R E st cs par rul) (od_in o a (eZ E) j) = if j < a then eF E (o j) else if j = a then g else eF E (o (j - 1)) := by
    intro j hj
    rw [ff]
    unfold od_in
    by_cases e1 : j < a
    · rw [if_pos e1, if_pos e1, upN_n _ _ (by have := (q1 j (by omega)).2; omega)]
    · rw [if_neg e1, if_neg e1]
      by_cases e2 : j = a
      · rw [if_pos e2, if_pos e2, upN_s]
      · rw [if_neg e2, if_neg e2, upN_n _ _ (by have := (q1 (j - 1) (by omega)).2; omega)]
  refine ⟨fun i hi => ?_, fun i j hij hj => ?_, fun k hk => ?_⟩
  · rw [zz] at hi ⊢
    rw [hod i hi]
    unfold od_in
    by_cases e1 : i < a
    · rw [if_pos e1, if_pos e1]; have := q1 i (by omega); exact ⟨this.1, by omega⟩
    · rw [if_neg e1, if_neg e1]
      by_cases e2 : i = a
      · rw [if_pos e2, if_pos e2]; exact ⟨rfl, by omega⟩
      · rw [if_neg e2, if_neg e2]; have := q1 (i - 1) (by omega); exact ⟨this.1, by omega⟩
  · rw [zz] at hj
    rw [fo i (by omega), fo j hj]
    by_cases j1 : j < a
    · rw [if_pos (show i < a by omega), if_pos j1]; exact q2 i j hij (by omega)
    · rw [if_neg j1]
      by_cases j2 : j = a
      · rw [if_pos j2, if_pos (show i < a by omega)]; exact h1 i (by omega)
      · rw [if_neg j2]
        by_cases i1 : i < a
        · rw [if_pos i1]; exact q2 i (j - 1) (by omega) (by omega)
        · rw [if_neg i1]
          by_cases i2 : i = a
          · rw [if_pos i2]; exact h2 (j - 1) (by omega) (by omega)
          · rw [if_neg i2]; exact q2 (i - 1) (j - 1) (by omega) (by omega)
  · rw [zz] at hk ⊢
    by_cases e : k = eZ E
    · refine ⟨a, by omega, ?_⟩
      unfold od_in
      rw [if_neg (by omega), if_pos rfl, e]
    · obtain ⟨i, hi, hoi⟩ := q3 k (by omega)
      by_cases i1 : i < a
      · refine ⟨i, by omega, ?_⟩
        unfold od_in
        rw [if_pos i1, hoi]
      · refine ⟨i + 1, by omega, ?_⟩
        unfold od_in
        rw [if_neg (by omega), if_neg (by omega), Nat.add_sub_cancel, hoi]
theorem rw_keep {a b : Nat → Int32} {o k : Nat} (h : rw_is a o k) (hb : ∀ j, o ≤ j → j < o + 12 → b j = a j) : rw_is b o k := by
  obtain ⟨h1, h2, h3⟩ := h
  have hn := sp_n_le k
  refine ⟨fun j hj => by rw [hb _ (by omega) (by omega)]; exact h1 j hj, by rw [hb _ (by omega) (by omega)]; exact h2, fun j c hc => ?_⟩
  have hj := (List.getElem?_eq_some_iff.mp hc).1
  rw [sp_cs_len] at hj
  rw [hb _ (by omega) (by omega)]
  exact h3 j c hc
def sp_RM_come : am_S := fun av w post => ∃ (R : sp_R) (room par rul a : Nat) (E : sp_E) (th : Int32) (o : Nat → Nat) (nx ls : Nat → Int32) (sv : Nat → Nat) (cs : List Nat), av = [aR 0, aI (nI par - 1), aI (nI rul - 1)] ∧ w.length = 19 ∧ (rq R room E th (nI (sp_sym (rN R) sv cs)) (nI a) o nx ls w) ∧ (rw_is ls 0 (sp_can (rN R) sv cs)) ∧ (∀ i, i < rN R → sv i < 8) ∧ (sp_vc (rN R) cs) ∧ (cs.length ≤ 7) ∧ (eZ E < room) ∧ ((par = 0 ∧ eZ E = 0) ∨ (par = eG E + 1 ∧ eG E < eZ E)) ∧ (rul < 2 ^ 30) ∧ (a ≤ eZ E) ∧ (∀ i, i < a → sp_rk (eF E (o i)) < sp_rk (sp_can (rN R) sv cs)) ∧ (∀ i, a ≤ i → i < eZ E → sp_rk (sp_can (rN R) sv cs) < sp_rk (eF E (o i))) ∧ (sp_is E (sp_can (rN R) sv cs) = false) ∧ (eN E = 0) ∧ (∀ w' : List am_C, rm R room (sp_tk R E sv cs par rul) th w' → post none w')
set_option maxRecDepth 20000 in
set_option maxHeartbeats 2000000 in
theorem c_RM_come : Con y_RM_come b_RM_come 4 none 1 0 0 false sp_RM_come := by
  refine Con.of (by decide) (fun av w post h => by obtain ⟨R, room, par, rul, a, E, th, o, nx, ls, sv, cs, rfl, -⟩ := h; exact Nat.le_of_ble_eq_true rfl) ?_
  intro X K hnm av w post h hr _
  obtain ⟨R, room, par, rul, a, E, th, o, nx, ls, sv, cs, rfl, hlen, hw, hls, hsv, hvc, h7, hz, hpar, hrul, ha, ha1, ha2, hnew, hN0, hp⟩ := h
  obtain ⟨c0, c1, c2, c3, c4, c5, c6, c7, c8, c9, c10, c11, c12, c13, c14, c15, c16, c17, c18, rfl⟩ := len19 hlen
  obtain ⟨bw, xf, xe, xt, xn, xk, xw, xb, nm, ro, od, le, pa, br, so, al, ot, hwe, hR, hE, hro, hA, hN, hS, hO, hbw⟩ := hw
  rw [hwe]
  clear hwe
  have hev := ev_tk (par := par) (rul := rul) hR hE hz hsv hvc h7 hnew hpar
  have hN1 := hR.1.1
  have hN4 := hR.1.2.1
  have hbwc := sp_bw_can (bad := rB R) hN1 hN4 hsv hvc h7
  have hkey := sp_can_vk hN1 hN4 hsv hvc h7
  obtain ⟨g, hg⟩ : ∃ g, g = sp_can (rN R) sv cs := ⟨_, rfl⟩
  rw [← hg] at hls ha1 ha2 hnew hbwc hkey
  have hn7 := sp_n_le g
  have hl4 : ls 4 = nI (sp_n g) := by have := hls.2.1; rwa [Nat.zero_add] at this
  have hlast : ∀ (od' ro' : Nat → Int32), (∀ j, j < eZ E + 1 → od' j = if j < a then od j else if j = a then nI (eZ E) else od (j - 1)) → (∀ j, j < 12 * eZ E → ro' j = ro j) → (∀ j, j < 5 + sp_n g → ro' (12 * eZ E + j) = ls j) →
      ∀ lv9 : Int32, lv9 = nI (if par = 0 then 0 else eL E (par - 1) + 1) → AW X 110 [some (aR 0), some (aI (nI par - 1)), some (aI (nI rul - 1)), none] [aI lv9, aI (nI (eZ E)), aR 11] [cRM th (nI (rN R)) (nI room) (nI (rS R)) (nI (rK R)) (nI (rU R)) (nI (sp_fc (rN R))) (nI (eZ E)) (nI (eG E)) (nI (eT E)) (nI (eO E)) (nI (eK E)) (rc_en (eN E)) bw (nI (sp_sym (rN R) sv cs)) (nI a), iC 40 xf, iC 40 xe, iC 40 xt, iC 40 xn, iC 160 xk, iC 160 xw, zC 64 xb, iC 96 nm, iC 98304 ro', iC 8192 od', iC 8192 le, iC 8192 pa, iC 8192 br, iC 8192 so, iC 8192 al, iC 12 nx, iC 12 ot, iC 12 ls] 0 0 := by
    intro od' ro' ho1 hr1 hr2 lv9 hlv
    have hin : vp_in (nI (eZ E)) 8192 := vp_in_nI (by omega) (by decide)
    refine x_RM_come_110 K hr c_RM_isBad (by decide) ⟨hin, hin, hin, hin, hin, ?_⟩
    rw [nI_clamp (by omega)]
    refine ⟨rN R, _, _, _, _, _, _, _, _, _, _, _, _, bw, _, _, xb, ls, rB R, sp_st g, rfl, rfl, rfl, rfl, rfl, hN4, hA.2, fun i hi => ⟨by have := hls.1 i (by omega); rwa [Nat.zero_add] at this, sp_st_lt g i⟩, hR.2.2, ?_⟩
    rw [hbwc]
    have hrow : rw_is ro' (12 * eZ E) g := by
      obtain ⟨r1, r2, r3⟩ := hls
      refine ⟨fun j hj => ?_, ?_, fun j c hc => ?_⟩
      · rw [hr2 j (by omega)]; have := r1 j hj; rwa [Nat.zero_add] at this
      · rw [hr2 4 (by omega)]; exact hl4
      · have hj := (List.getElem?_eq_some_iff.mp hc).1
        rw [sp_cs_len] at hj
        rw [show 12 * eZ E + 5 + j = 12 * eZ E + (5 + j) by omega, hr2 (5 + j) (by omega)]
        have := r3 j c hc
        rwa [Nat.zero_add] at this
    have hS2 : rm_S (sp_tk R E sv cs par rul) ro' (upd le (eZ E) lv9) (upd pa (eZ E) (nI par - 1)) (upd br (eZ E) (nI rul - 1)) (upd so (eZ E) (-1)) (upd al (eZ E) (nI (sp_sym (rN R) sv cs))) := by
      intro k hk
      have hk' : k < eZ E + 1 := hk
      show rw_is ro' (12 * k) (upN (eF E) (eZ E) (sp_can (rN R) sv cs) k) ∧ upd le (eZ E) lv9 k = nI (upN (eL E) (eZ E) _ k) ∧ upd pa (eZ E) (nI par - 1) k = nI (upN (eP E) (eZ E) par k) - 1 ∧ upd br (eZ E) (nI rul - 1) k = nI (upN (eR E) (eZ E) rul k) - 1 ∧ upd so (eZ E) (-1) k = nI (upN (eS E) (eZ E) 0 k) - 1 ∧ upd al (eZ E) (nI (sp_sym (rN R) sv cs)) k = nI (upN (eY E) (eZ E) _ k)
      by_cases e : k = eZ E
      · rw [e, upN_s, upN_s, upN_s, upN_s, upN_s, upN_s, pk_us, pk_us, pk_us, pk_us, pk_us, ← hg]
        exact ⟨hrow, hlv, rfl, rfl, by decide, rfl⟩
      · rw [upN_n _ _ e, upN_n _ _ e, upN_n _ _ e, upN_n _ _ e, upN_n _ _ e, upN_n _ _ e, pk_un e, pk_un e, pk_un e, pk_un e, pk_un e]
        obtain ⟨s1, s2⟩ := hS k (by omega)
        exact ⟨rw_keep s1 (fun j j1 j2 => hr1 j (by omega)), s2⟩
    have hO2 := rm_O_tk (R := R) (st := sv) (cs := cs) (par := par) (rul := rul) hg hO ha ha1 ha2 ho1
    cases hb : sp_bw (rN R) (rB R) sv with
    | true =>
      refine x_RM_come_158 K hr ⟨fun z => absurd z (by decide), fun _ => ?_⟩
      rw [nI_1]
      have een : eN (sp_tk R E sv cs par rul) = 2 := by show (if sp_bw (rN R) (rB R) sv = true then 2 else eN E) = 2; rw [hb]; rfl
      refine hp _ ⟨nI (sp_sym (rN R) sv cs), nI a, od_in o a (eZ E), nx, ls, nI (eZ E), xf, xe, xt, xn, xk, xw, xb, nm, ro', od', upd le (eZ E) lv9, upd pa (eZ E) (nI par - 1), upd br (eZ E) (nI rul - 1), upd so (eZ E) (-1), upd al (eZ E) (nI (sp_sym (rN R) sv cs)), ot, ?_, hR, hev, hro, hA, hN, hS2, hO2, fun _ => rfl⟩
      rw [een]
      rfl
    | false =>
      refine x_RM_come_158 K hr ⟨fun _ => ?_, fun z => absurd rfl z⟩
      rw [nI_1]
      have een : eN (sp_tk R E sv cs par rul) = eN E := by show (if sp_bw (rN R) (rB R) sv = true then 2 else eN E) = eN E; rw [hb]; rfl
      refine hp _ ⟨nI (sp_sym (rN R) sv cs), nI a, od_in o a (eZ E), nx, ls, bw, xf, xe, xt, xn, xk, xw, xb, nm, ro', od', upd le (eZ E) lv9, upd pa (eZ E) (nI par - 1), upd br (eZ E) (nI rul - 1), upd so (eZ E) (-1), upd al (eZ E) (nI (sp_sym (rN R) sv cs)), ot, ?_, hR, hev, hro, hA, hN, hS2, hO2, fun h => by rw [een, hN0] at h; omega⟩
      rw [een]
      rfl
  have k48 : ∀ (t j : Nat) (od' ro' : Nat → Int32), j + t = 5 + sp_n g → (∀ j, j < eZ E + 1 → od' j = if j < a then od j else if j = a then nI (eZ E) else od (j - 1)) → (∀ i, i < 12 * eZ E → ro' i = ro i) → (∀ i, i < j → ro' (12 * eZ E + i) = ls i) → AW X 48 [some (aR 0), some (aI (nI par - 1)), some (aI (nI rul - 1)), some (aI (nI j))] [] [cRM th (nI (rN R)) (nI room) (nI (rS R)) (nI (rK R)) (nI (rU R)) (nI (sp_fc (rN R))) (nI (eZ E)) (nI (eG E)) (nI (eT E)) (nI (eO E)) (nI (eK E)) (rc_en (eN E)) bw (nI (sp_sym (rN R) sv cs)) (nI a), iC 40 xf, iC 40 xe, iC 40 xt, iC 40 xn, iC 160 xk, iC 160 xw, zC 64 xb, iC 96 nm, iC 98304 ro', iC 8192 od', iC 8192 le, iC 8192 pa, iC 8192 br, iC 8192 so, iC 8192 al, iC 12 nx, iC 12 ot, iC 12 ls] 0 0 := by
    intro t
    induction t with
    | zero =>
      intro j od' ro' hj h1 h2 h3
      refine x_RM_come_48 K hr ?_
      rw [xc4, hl4, xa5]
      refine ⟨fun _ => ⟨fun z => ?_, fun z => ?_⟩, fun z => absurd (nI_le (by omega) (by omega)) z⟩
      · rcases hpar with ⟨p1, p2⟩ | ⟨p1, p2⟩
        · rw [p1] at z; exact absurd z (by decide)
        · subst p1
          rw [nI_pred, nI_clamp (by omega), (hS (eG E) p2).2.1, nI_1]
          rw [nI_pred] at hlast
          exact ⟨vp_in_nI (by omega) (by decide), hlast od' ro' h1 h2 (fun i hi => h3 i (by omega)) _ (by rw [if_neg (by omega), Nat.add_sub_cancel])⟩
      · rcases hpar with ⟨p1, p2⟩ | ⟨p1, p2⟩
        · exact hlast od' ro' h1 h2 (fun i hi => h3 i (by omega)) 0 (by rw [if_pos p1]; rfl)
        · subst p1
          rw [nI_pred] at z
          exact absurd (nI_pos' (by omega)) z
    | succ t ih =>
      intro j od' ro' hj h1 h2 h3
      refine x_RM_come_48 K hr ?_
      rw [xc4, hl4, xa5, x12, nI_clamp (n := 12 * eZ E + j) (by omega), nI_clamp (n := j) (by omega)]
      refine ⟨fun z => absurd z (nI_ge (by omega) (by omega)), fun _ => ⟨vp_in_nI (by omega) (by decide), vp_in_nI (by omega) (by decide), ?_⟩⟩
      rw [nI_1]
      refine ih (j + 1) od' _ (by omega) h1 (fun i hi => by rw [pk_un (by omega)]; exact h2 i hi) (fun i hi => ?_)
      by_cases e : i = j
      · rw [e, pk_us]
      · rw [pk_un (by omega)]; exact h3 i (by omega)
  have k5 : ∀ (t k : Nat) (od' : Nat → Int32), k = a + t → k ≤ eZ E → (∀ j, j ≤ k → j < eZ E → od' j = od j) → (∀ j, k < j → j < eZ E + 1 → od' j = od (j - 1)) → AW X 5 [some (aR 0), some (aI (nI par - 1)), some (aI (nI rul - 1)), some (aI (nI k))] [] [cRM th (nI (rN R)) (nI room) (nI (rS R)) (nI (rK R)) (nI (rU R)) (nI (sp_fc (rN R))) (nI (eZ E)) (nI (eG E)) (nI (eT E)) (nI (eO E)) (nI (eK E)) (rc_en (eN E)) bw (nI (sp_sym (rN R) sv cs)) (nI a), iC 40 xf, iC 40 xe, iC 40 xt, iC 40 xn, iC 160 xk, iC 160 xw, zC 64 xb, iC 96 nm, iC 98304 ro, iC 8192 od', iC 8192 le, iC 8192 pa, iC 8192 br, iC 8192 so, iC 8192 al, iC 12 nx, iC 12 ot, iC 12 ls] 0 0 := by
    intro t
    induction t with
    | zero =>
      intro k od' hk h0 h1 h2
      have e : k = a := by omega
      subst e
      refine x_RM_come_5 K hr ⟨fun _ => ⟨vp_in_nI (by omega) (by decide), ?_⟩, fun z => absurd (Int32.le_refl _) z⟩
      rw [nI_clamp (by omega)]
      refine k48 (5 + sp_n g) 0 _ ro (by omega) (fun j hj => ?_) (fun _ _ => rfl) (fun i hi => by omega)
      by_cases e1 : j < k
      · rw [if_pos e1, pk_un (by omega)]; exact h1 j (by omega) (by omega)
      · rw [if_neg e1]
        by_cases e2 : j = k
        · rw [if_pos e2, e2, pk_us]
        · rw [if_neg e2, pk_un e2]; exact h2 j (by omega) hj
    | succ t ih =>
      intro k od' hk h0 h1 h2
      obtain ⟨k', rfl⟩ : ∃ k', k = k' + 1 := ⟨k - 1, by omega⟩
      refine x_RM_come_5 K hr ⟨fun z => absurd z (nI_ge (by omega) (by omega)), fun _ => ?_⟩
      rw [nI_pred, nI_clamp (n := k' + 1) (by omega), nI_clamp (n := k') (by omega), pk_m1]
      refine ⟨vp_in_nI (by omega) (by decide), vp_in_nI (by omega) (by decide), ih k' _ (by omega) (by omega) (fun j hj hj2 => by rw [pk_un (by omega)]; exact h1 j (by omega) hj2) (fun j hj hj2 => ?_)⟩
      by_cases e : j = k' + 1
      · rw [e, pk_us, Nat.add_sub_cancel]; exact h1 k' (by omega) (by omega)
      · rw [pk_un e]; exact h2 j (by omega) hj2
  refine x_RM_come_0 K hr ?_
  exact k5 (eZ E - a) (eZ E) od (by omega) (Nat.le_refl _) (fun _ _ _ => rfl) (fun j h1 h2 => by omega)
theorem ez_eq {E : sp_E} (h : ez E) (h0 : eZ E = 0) : o_E0 E = E := by
  obtain ⟨z, g, t, o, k, n, F, L, P, U, S, Y⟩ := E
  obtain ⟨h1, h2, h3, h4, h5⟩ := h h0
  have z0 : z = 0 := h0
  have g0 : g = 0 := h1
  have t0 : t = 0 := h2
  have o0 : o = 0 := h3
  have k0 : k = 0 := h4
  have n0 : n = 0 := h5
  subst z0; subst g0; subst t0; subst o0; subst k0; subst n0
  rfl
def sp_RM_begin : am_S := fun av w post => ∃ (R : sp_R) (room : Nat) (E : sp_E) (th : Int32), av = [aR 0] ∧ w.length = 19 ∧ (rm R room E th w) ∧ (ez E) ∧ (∀ w' : List am_C, rm R room (sp_bg R E) th w' → post none w')
set_option maxRecDepth 20000 in
set_option maxHeartbeats 2000000 in
theorem c_RM_begin : Con y_RM_begin b_RM_begin 2 none 3 0 0 false sp_RM_begin := by
  refine Con.of (by decide) (fun av w post h => by obtain ⟨R, room, E, th, rfl, -⟩ := h; exact Nat.le_of_ble_eq_true rfl) ?_
  intro X K hnm av w post h hr _
  obtain ⟨R, room, E, th, rfl, hlen, hw, hez, hp⟩ := h
  obtain ⟨c0, c1, c2, c3, c4, c5, c6, c7, c8, c9, c10, c11, c12, c13, c14, c15, c16, c17, c18, rfl⟩ := len19 hlen
  have hw0 := hw
  obtain ⟨hR, hE, hro, -⟩ := rm_vs hw
  have hzr := hE.1.1
  have hN1 := hR.1.1
  have hN4 := hR.1.2.1
  obtain ⟨sm, at9, o, nx, ls, bw, xf, xe, xt, xn, xk, xw, xb, nm, ro, od, le, pa, br, so, al, ot, hwe, -⟩ := hw
  rw [hwe] at hw0 ⊢
  clear hwe
  have hvc : sp_vc (rN R) [] := fun c h => by cases h
  have hst : ∀ i, i < rN R → (fun _ : Nat => 0) i < 8 := fun _ _ => by show 0 < 8; omega
  have hkey := sp_can_vk (st := fun _ => 0) (cs := []) hN1 hN4 hst hvc (by show 0 ≤ 7; omega)
  refine x_RM_begin_0 K hr c_RM_forget (by decide) ⟨fun z => ?_, fun z => ?_⟩
  · have e0 : eZ E = 0 := by
      rcases Nat.eq_zero_or_pos (eZ E) with h | h
      · exact h
      · exact absurd z (nI_nle h (by omega))
    have hbg : sp_bg R E = sp_tk R E (fun _ => 0) [] 0 0 := if_pos e0
    rw [hbg] at hp
    refine ⟨R, room, E, th, rfl, rfl, hw0, fun w' hw' => ?_⟩
    rw [ez_eq hez e0] at hw'
    obtain ⟨sm, at9, o, nx, ls, bw, xf, xe, xt, xn, xk, xw, xb, nm, ro, od, le, pa, br, so, al, ot, rfl, -, -, -, hA, hN, hS, hO, hbw⟩ := hw'
    refine x_RM_begin_12 K hr ?_
    have k14 : ∀ (t i : Nat) (nx' : Nat → Int32), i + t = 12 → (∀ j, j < i → nx' j = 0) → AW X 14 [some (aR 0), some (aI (nI i))] [] [cRM th (nI (rN R)) (nI room) (nI (rS R)) (nI (rK R)) (nI (rU R)) (nI (sp_fc (rN R))) (nI (eZ E)) (nI (eG E)) (nI (eT E)) (nI (eO E)) (nI (eK E)) (rc_en (eN E)) bw sm at9, iC 40 xf, iC 40 xe, iC 40 xt, iC 40 xn, iC 160 xk, iC 160 xw, zC 64 xb, iC 96 nm, iC 98304 ro, iC 8192 od, iC 8192 le, iC 8192 pa, iC 8192 br, iC 8192 so, iC 8192 al, iC 12 nx', iC 12 ot, iC 12 ls] 0 0 := by
      intro t
      induction t with
      | zero =>
        intro i nx' hi h1
        have e : i = 12 := by omega
        subst e
        refine x_RM_begin_14 K hr c_RM_form (by decide) ⟨fun _ => ?_, fun z => absurd (Int32.le_refl _) z⟩
        refine ⟨rN R, _, _, _, _, _, _, _, _, _, _, _, _, _, _, nm, nx', ot, ls, fun _ => 0, [], rfl, rfl, rfl, rfl, rfl, rfl, rfl, hN1, hN4, hN, fun i hi => ⟨h1 i (by omega), by show 0 < 8; omega⟩, h1 4 (by omega), fun j c hc => by simp at hc, by show 0 ≤ 7; omega, hvc, fun ot' ls' hls => ?_⟩
        refine x_RM_begin_37 K hr c_RM_come (by decide) ?_
        refine ⟨R, room, 0, 0, 0, E, th, o, nx', ls', fun _ => 0, [], rfl, rfl, ⟨bw, xf, xe, xt, xn, xk, xw, xb, nm, ro, od, le, pa, br, so, al, ot', rfl, hR, hE, hro, hA, hN, hS, hO, hbw⟩, hls, hst, hvc, by show 0 ≤ 7; omega, by omega, Or.inl ⟨rfl, e0⟩, by decide, Nat.zero_le _, fun i hi => absurd hi (by omega), fun i _ hi => absurd hi (by omega), ?_, (hez e0).2.2.2.2, fun w9 hw9 => ?_⟩
        · cases h : sp_is E (sp_can (rN R) (fun _ => 0) []) with
          | false => rfl
          | true =>
            obtain ⟨i, hi, -⟩ := sp_is_iff.mp h
            omega
        · have h9 := hp _ hw9
          obtain ⟨sm, at9, o, nx, ls, bw, xf, xe, xt, xn, xk, xw, xb, nm, ro, od, le, pa, br, so, al, ot, rfl, -⟩ := hw9
          exact x_RM_begin_48 K hr h9
      | succ t ih =>
        intro i nx' hi h1
        refine x_RM_begin_14 K hr c_RM_form (by decide) ⟨fun z => absurd z (nI_ge (a := i) (b := 12) (by omega) (by decide)), fun _ => ⟨vp_in_nI (by omega) (by decide), ?_⟩⟩
        rw [nI_clamp (by omega), nI_1]
        refine ih (i + 1) _ (by omega) (fun j hj => ?_)
        by_cases e : j = i
        · rw [e, pk_us]
        · rw [pk_un e]; exact h1 j (by omega)
    exact k14 12 0 nx rfl (fun j hj => by omega)
  · have e0 : ¬ eZ E = 0 := fun h => z (by rw [h]; exact Int32.le_refl _)
    have hbg : sp_bg R E = E := if_neg e0
    rw [hbg] at hp
    exact hp _ hw0

/-! ===== THE REFERENCE: goThrough, run ===== -/
theorem mk_F (R : sp_R) (room f node r recv : Nat) (s : sp_S) : ∀ k, k < eZ s.1 → eF (sp_mk R room f node r recv s).1 k = eF s.1 k := by
  obtain ⟨⟨z, g, t, o, k, n, F, L, P, U, S, Y⟩, h⟩ := s
  intro q hq
  unfold sp_mk
  dsimp only
  by_cases h1 : sp_is (z, g, t, o, k, n, F, L, P, U, S, Y) (sp_can (rN R) (sp_ns R f node r) (sp_nc R f node r recv)) = true
  · rw [if_pos h1]
  · rw [if_neg h1]
    by_cases h2 : z = room
    · rw [if_pos h2]
    · rw [if_neg h2]; exact upN_n F _ (Nat.ne_of_lt hq)
theorem tc_F (R : sp_R) (room f node r : Nat) : ∀ (t i : Nat) (s : sp_S), ∀ k, k < eZ s.1 → eF (sp_tc R room f node r t i s).1 k = eF s.1 k := by
  intro t
  induction t with
  | zero => intro i s k hk; rfl
  | succ t ih =>
    intro i s k hk
    unfold sp_tc
    by_cases h : eN s.1 = 0
    · rw [if_pos h]
      split
      · have g2 := (mk_g R room f node r (i + 1) s).2.1
        rw [ih (i + 1) (sp_mk R room f node r (i + 1) s) k (by omega), mk_F R room f node r (i + 1) s k hk]
      · exact ih (i + 1) s k hk
    · rw [if_neg h]
theorem tr_F (R : sp_R) (room f node r : Nat) (s : sp_S) : ∀ k, k < eZ s.1 → eF (sp_tr R room f node r s).1 k = eF s.1 k := by
  intro k hk
  unfold sp_tr
  by_cases h1 : sp_st f node = rF R r ∧ sp_n f + sp_gw R r (rC R r) ≤ (if rV R r = 0 then 7 else 8)
  · rw [if_pos h1]
    by_cases h2 : rV R r = 0
    · rw [if_pos h2]; exact mk_F R room f node r 0 s k hk
    · rw [if_neg h2]; exact tc_F R room f node r (sp_n f) 0 s k hk
  · rw [if_neg h1]
theorem gt_G (R : sp_R) (room : Nat) (E : sp_E) (hU : rU R ≤ 40) : ¬ eN (sp_gt R room E) = 0 ∨ eG (sp_gt R room E) = eG E + 1 := by
  have h := (gn_g R room (eF E (eG E)) hU (rN R) 0 (E, 0)).1
  unfold sp_gt
  by_cases q : eN (sp_gn R room (eF E (eG E)) (rN R) 0 (E, 0)).1 = 0
  · rw [if_pos q]
    right
    show eG (sp_gn R room (eF E (eG E)) (rN R) 0 (E, 0)).1 + 1 = _
    rw [h]
  · rw [if_neg q]; exact Or.inl q
theorem on_stop (R : sp_R) (room : Nat) {E : sp_E} (h : ¬ (eN E = 0 ∧ eG E < eZ E)) : ∀ n, sp_on R room n E = E := by
  intro n
  cases n with
  | zero => rfl
  | succ n => show (if eN E = 0 ∧ eG E < eZ E then _ else _) = _; rw [if_neg h]
def sp_RM_goThrough : am_S := fun av w post => ∃ (R : sp_R) (room : Nat) (E : sp_E) (th : Int32), av = [aR 0] ∧ w.length = 19 ∧ (rm R room E th w) ∧ (eG E < eZ E) ∧ (eN E = 0) ∧ (∀ w' : List am_C, rm R room (sp_gt R room E) th w' → post none w')
set_option maxRecDepth 20000 in
set_option maxHeartbeats 2000000 in
theorem c_RM_goThrough : Con y_RM_goThrough b_RM_goThrough 6 none 5 0 0 false sp_RM_goThrough := by
  refine Con.of (by decide) (fun av w post h => by obtain ⟨R, room, E, th, rfl, -⟩ := h; exact Nat.le_of_ble_eq_true rfl) ?_
  intro X K hnm av w post h hr _
  obtain ⟨R, room, E, th, rfl, hlen, hw, hg, hN0, hp⟩ := h
  obtain ⟨c0, c1, c2, c3, c4, c5, c6, c7, c8, c9, c10, c11, c12, c13, c14, c15, c16, c17, c18, rfl⟩ := len19 hlen
  have hw0 := hw
  obtain ⟨hR, hE, hro, -⟩ := rm_vs hw
  have hzr := hE.1.1
  have hN4 := hR.1.2.1
  have hU40 := hR.1.2.2.2.2
  obtain ⟨sm, at9, o, nx, ls, bw, xf, xe, xt, xn, xk, xw, xb, nm, ro, od, le, pa, br, so, al, ot, hwe, -⟩ := hw
  rw [hwe] at hw0 ⊢
  clear hwe
  obtain ⟨f, hf⟩ : ∃ f, f = eF E (eG E) := ⟨_, rfl⟩
  have hvk : sp_vk (rN R) f := by rw [hf]; exact (hE.2.1 _ hg).1
  have k20 : ∀ (i : Nat), i < rN R → ∀ (t r : Nat) (s : sp_S) (w : List am_C), r + t = rU R → rm R room s.1 th w → eG s.1 = eG E → eG s.1 < eZ s.1 → eN s.1 = 0 → f = eF s.1 (eG s.1) →
      (eN (sp_gr R room f i t r s).1 = 0 → ∀ w', rm R room (sp_gr R room f i t r s).1 th w' → f = eF (sp_gr R room f i t r s).1 (eG (sp_gr R room f i t r s).1) → AW X 9 [some (aR 0), some (aI (nI (eG E))), some (aI (nI (sp_gr R room f i t r s).2)), some (aI (nI (i + 1))), none, none] [] w' 0 0) →
      (¬ eN (sp_gr R room f i t r s).1 = 0 → ∀ w', rm R room (sp_gr R room f i t r s).1 th w' → post none w') →
      AW X 20 [some (aR 0), some (aI (nI (eG E))), some (aI (nI s.2)), some (aI (nI i)), some (aI (nI r)), none] [] w 0 0 := by
    intro i hi t
    induction t with
    | zero =>
      intro r s w h1 hw h3 h4 h7 h8 h5 h6
      have hw' := hw
      obtain ⟨sm, at9, o, nx, ls, bw, xf, xe, xt, xn, xk, xw, xb, nm, ro, od, le, pa, br, so, al, ot, rfl, -⟩ := hw
      refine x_RM_goThrough_20 K hr c_RM_allSteps (by decide) ⟨fun _ => ?_, fun z => absurd (nI_le (by omega) (by omega)) z⟩
      rw [nI_1]
      exact h5 h7 _ hw' h8
    | succ t ih =>
      intro r s w h1 hw h3 h4 h7 h8 h5 h6
      have hw' := hw
      obtain ⟨-, hE1, -, -⟩ := rm_vs hw
      have hz1 := hE1.1.1
      obtain ⟨sm, at9, o, nx, ls, bw, xf, xe, xt, xn, xk, xw, xb, nm, ro, od, le, pa, br, so, al, ot, rfl, -, -, -, hA, -, hS, -⟩ := hw
      have hrow := (hS _ h4).1
      rw [← h8, h3] at hrow
      have hst8 := sp_st_lt f i
      have hrF := (hR.2.1 r (by omega)).1
      have hS8 := hR.1.2.2.1
      obtain ⟨a1, -⟩ := hA.1 r (by omega)
      have hstep : sp_gr R room f i (t + 1) r s = if eN (sp_tr R room f i r s).1 = 0 then sp_gr R room f i t (r + 1) (sp_tr R room f i r s) else sp_tr R room f i r s := rfl
      refine x_RM_goThrough_20 K hr c_RM_allSteps (by decide) ⟨fun z => absurd z (nI_ge (by omega) (by omega)), fun _ => ?_⟩
      rw [x12, nI_clamp (n := 12 * eG E + i) (by omega), hrow.1 i (by omega), nI_clamp (n := r) (by omega), a1]
      refine ⟨vp_in_nI (by omega) (by decide), vp_in_nI (by omega) (by decide), fun z => ?_, fun z => ?_⟩
      · have hst : sp_st f i = rF R r := (nI_eq (by omega) (by omega)).mp z
        obtain ⟨s1, s2⟩ := s
        have etr := tr_add R room f i r s1 s2
        obtain ⟨g1, g2, g3⟩ := tr_g R room f i r (s1, 0)
        have gF := tr_F R room f i r (s1, 0)
        have g1' : eG (sp_tr R room f i r (s1, 0)).1 = eG s1 := g1
        have g2' : eZ s1 ≤ eZ (sp_tr R room f i r (s1, 0)).1 := g2
        have g3' : (sp_tr R room f i r (s1, 0)).2 ≤ 8 := by have : (sp_tr R room f i r (s1, 0)).2 ≤ 0 + 8 := g3; omega
        have h3' : eG s1 = eG E := h3
        have h4' : eG s1 < eZ s1 := h4
        have h8' : f = eF s1 (eG s1) := h8
        refine ⟨R, room, f, i, r, s1, th, by rw [h3'], rfl, hw', h4', h7, hi, by omega, h8', hst, fun w9 hw9 => ?_⟩
        rw [etr] at hstep
        have hw90 := hw9
        obtain ⟨sm, at9, o, nx, ls, bw, xf, xe, xt, xn, xk, xw, xb, nm, ro, od, le, pa, br, so, al, ot, rfl, -⟩ := hw9
        by_cases hen : eN (sp_tr R room f i r (s1, 0)).1 = 0
        · rw [if_pos hen]
          refine x_RM_goThrough_61 K hr ⟨fun _ => ?_, fun q => absurd (nI_pos' (by omega)) q⟩
          rw [hstep, if_pos hen] at h5 h6
          rw [nI_add, nI_1]
          refine ih (r + 1) ((sp_tr R room f i r (s1, 0)).1, s2 + (sp_tr R room f i r (s1, 0)).2) _ (by omega) hw90 (by show eG (sp_tr R room f i r (s1, 0)).1 = _; rw [g1', h3']) (by show eG (sp_tr R room f i r (s1, 0)).1 < eZ (sp_tr R room f i r (s1, 0)).1; omega) hen ?_ h5 h6
          show f = eF (sp_tr R room f i r (s1, 0)).1 (eG (sp_tr R room f i r (s1, 0)).1)
          rw [g1', gF _ h4']
          exact h8'
        · rw [if_neg hen]
          rw [hstep, if_neg hen] at h6
          exact x_RM_goThrough_61 K hr ⟨fun q => absurd q (by decide), fun _ => h6 hen _ hw90⟩
      · have hst : ¬ sp_st f i = rF R r := fun q => z (by rw [q])
        have etr : sp_tr R room f i r s = s := by unfold sp_tr; rw [if_neg (fun q => hst q.1)]
        rw [hstep, etr, if_pos h7] at h5 h6
        rw [nI_1]
        exact ih (r + 1) s _ (by omega) hw' h3 h4 h7 h8 h5 h6
  have k9 : ∀ (t i : Nat) (s : sp_S) (w : List am_C), i + t = rN R → rm R room s.1 th w → eG s.1 = eG E → eG s.1 < eZ s.1 → eN s.1 = 0 → f = eF s.1 (eG s.1) → s.2 + 320 * t < 2 ^ 30 →
      (eN (sp_gn R room f t i s).1 = 0 → ∀ w', rm R room (sp_fin (sp_gn R room f t i s)) th w' → post none w') →
      (¬ eN (sp_gn R room f t i s).1 = 0 → ∀ w', rm R room (sp_gn R room f t i s).1 th w' → post none w') →
      AW X 9 [some (aR 0), some (aI (nI (eG E))), some (aI (nI s.2)), some (aI (nI i)), none, none] [] w 0 0 := by
    intro t
    induction t with
    | zero =>
      intro i s w h1 hw h3 h4 h7 h8 hb h5 h6
      have h5' := h5 h7
      obtain ⟨⟨z, g, tt, oo, k, n, F, L, P, U, S, Y⟩, hh⟩ := s
      obtain ⟨sm, at9, o, nx, ls, bw, xf, xe, xt, xn, xk, xw, xb, nm, ro, od, le, pa, br, so, al, ot, rfl, hR, hE1, hro, hA, hN, hS, hO, hbw⟩ := hw
      have hev := ev_fin (s := ((z, g, tt, oo, k, n, F, L, P, U, S, Y), hh)) hE1 h4
      have eg : g = eG E := h3
      have hgz : g < z := h4
      have hhb : hh + 320 * 0 < 2 ^ 30 := hb
      have hzr2 : z ≤ room := hE1.1.1
      have hS2 : rm_S (sp_fin ((z, g, tt, oo, k, n, F, L, P, U, S, Y), hh)) ro le pa br (upd so g (nI hh)) al := by
        intro j hj
        obtain ⟨q1, q2, q3, q4, q5, q6⟩ := hS j hj
        refine ⟨q1, q2, q3, q4, ?_, q6⟩
        show upd so g (nI hh) j = nI (upN S g (hh + 1) j) - 1
        by_cases e1 : j = g
        · rw [e1, pk_us, upN_s, nI_pred]
        · rw [pk_un e1, upN_n _ _ e1]
          exact q5
      have hO2 : rm_O (sp_fin ((z, g, tt, oo, k, n, F, L, P, U, S, Y), hh)) od o := hO
      have hbw2 : eN (sp_fin ((z, g, tt, oo, k, n, F, L, P, U, S, Y), hh)) = 2 → bw = nI (eZ (sp_fin ((z, g, tt, oo, k, n, F, L, P, U, S, Y), hh)) - 1) := hbw
      refine x_RM_goThrough_9 K hr ⟨fun _ => ⟨vp_in_nI (by omega) (by decide), fun z9 => ?_, fun z9 => ?_⟩, fun q => absurd (nI_le (by omega) (by omega)) q⟩
      · rw [nI_clamp (by omega), ← eg]
        refine x_RM_goThrough_107 K hr ?_
        have e0 : hh ≠ 0 := fun q => z9 (by show nI hh = 0; rw [q]; rfl)
        have efin : (if hh = 0 then k + 1 else k) = k := if_neg e0
        rw [nI_1]
        refine h5' _ ⟨sm, at9, o, nx, ls, bw, xf, xe, xt, xn, xk, xw, xb, nm, ro, od, le, pa, br, upd so g (nI hh), al, ot, ?_, hR, hev, hro, hA, hN, hS2, hO2, hbw2⟩
        show _ = [cRM th (nI (rN R)) (nI room) (nI (rS R)) (nI (rK R)) (nI (rU R)) (nI (sp_fc (rN R))) (nI z) (nI (g + 1)) (nI tt) (nI oo) (nI (if hh = 0 then k + 1 else k)) (rc_en n) bw sm at9, iC 40 xf, iC 40 xe, iC 40 xt, iC 40 xn, iC 160 xk, iC 160 xw, zC 64 xb, iC 96 nm, iC 98304 ro, iC 8192 od, iC 8192 le, iC 8192 pa, iC 8192 br, iC 8192 (upd so g (nI hh)), iC 8192 al, iC 12 nx, iC 12 ot, iC 12 ls]
        rw [efin]
        have es : nI k + (0 : Int32) = nI k := Int32.add_zero _
        rw [es]
      · rw [nI_clamp (by omega), ← eg]
        refine x_RM_goThrough_107 K hr ?_
        have e0 : hh = 0 := (nI_eq (a := hh) (b := 0) (by omega) (by omega)).mp z9
        have efin : (if hh = 0 then k + 1 else k) = k + 1 := if_pos e0
        rw [nI_1, nI_1]
        refine h5' _ ⟨sm, at9, o, nx, ls, bw, xf, xe, xt, xn, xk, xw, xb, nm, ro, od, le, pa, br, upd so g (nI hh), al, ot, ?_, hR, hev, hro, hA, hN, hS2, hO2, hbw2⟩
        show _ = [cRM th (nI (rN R)) (nI room) (nI (rS R)) (nI (rK R)) (nI (rU R)) (nI (sp_fc (rN R))) (nI z) (nI (g + 1)) (nI tt) (nI oo) (nI (if hh = 0 then k + 1 else k)) (rc_en n) bw sm at9, iC 40 xf, iC 40 xe, iC 40 xt, iC 40 xn, iC 160 xk, iC 160 xw, zC 64 xb, iC 96 nm, iC 98304 ro, iC 8192 od, iC 8192 le, iC 8192 pa, iC 8192 br, iC 8192 (upd so g (nI hh)), iC 8192 al, iC 12 nx, iC 12 ot, iC 12 ls]
        rw [efin]
    | succ t ih =>
      intro i s w h1 hw h3 h4 h7 h8 hb h5 h6
      have hstep : sp_gn R room f (t + 1) i s = if eN (sp_gr R room f i (rU R) 0 s).1 = 0 then sp_gn R room f t (i + 1) (sp_gr R room f i (rU R) 0 s) else sp_gr R room f i (rU R) 0 s := rfl
      have hw' := hw
      obtain ⟨sm, at9, o, nx, ls, bw, xf, xe, xt, xn, xk, xw, xb, nm, ro, od, le, pa, br, so, al, ot, rfl, -⟩ := hw
      refine x_RM_goThrough_9 K hr ⟨fun q => absurd q (nI_ge (by omega) (by omega)), fun _ => ?_⟩
      obtain ⟨g1, g2, g3⟩ := gr_g R room f i (rU R) 0 s
      refine k20 i (by omega) (rU R) 0 s _ (by omega) hw' h3 h4 h7 h8 (fun z w' hw9 hf9 => ?_) (fun z w' hw9 => ?_)
      · rw [hstep, if_pos z] at h5 h6
        exact ih (i + 1) (sp_gr R room f i (rU R) 0 s) w' (by omega) hw9 (by rw [g1]; exact h3) (by rw [g1]; omega) z hf9 (by omega) h5 h6
      · rw [hstep, if_neg z] at h6
        exact h6 z w' hw9
  refine x_RM_goThrough_0 K hr ?_
  refine k9 (rN R) 0 (E, 0) _ (by omega) hw0 rfl hg hN0 hf (by show 0 + 320 * rN R < 2 ^ 30; omega) (fun z w' hw9 => ?_) (fun z w' hw9 => ?_)
  · refine hp w' ?_
    unfold sp_gt
    rw [← hf, if_pos z]
    exact hw9
  · refine hp w' ?_
    unfold sp_gt
    rw [← hf, if_neg z]
    exact hw9
theorem rm_th {R : sp_R} {room : Nat} {E : sp_E} {th : Int32} {sm at9 bw : Int32} {nx ls xf xe xt xn xk xw xb nm ro od le pa br so al ot : Nat → Int32} (th' : Int32) (h : rm R room E th [cRM th (nI (rN R)) (nI room) (nI (rS R)) (nI (rK R)) (nI (rU R)) (nI (sp_fc (rN R))) (nI (eZ E)) (nI (eG E)) (nI (eT E)) (nI (eO E)) (nI (eK E)) (rc_en (eN E)) bw sm at9, iC 40 xf, iC 40 xe, iC 40 xt, iC 40 xn, iC 160 xk, iC 160 xw, zC 64 xb, iC 96 nm, iC 98304 ro, iC 8192 od, iC 8192 le, iC 8192 pa, iC 8192 br, iC 8192 so, iC 8192 al, iC 12 nx, iC 12 ot, iC 12 ls]) : rm R room E th' [cRM th' (nI (rN R)) (nI room) (nI (rS R)) (nI (rK R)) (nI (rU R)) (nI (sp_fc (rN R))) (nI (eZ E)) (nI (eG E)) (nI (eT E)) (nI (eO E)) (nI (eK E)) (rc_en (eN E)) bw sm at9, iC 40 xf, iC 40 xe, iC 40 xt, iC 40 xn, iC 160 xk, iC 160 xw, zC 64 xb, iC 96 nm, iC 98304 ro, iC 8192 od, iC 8192 le, iC 8192 pa, iC 8192 br, iC 8192 so, iC 8192 al, iC 12 nx, iC 12 ot, iC 12 ls] := by
  obtain ⟨sm2, at2, o2, nx2, ls2, bw2, xf2, xe2, xt2, xn2, xk2, xw2, xb2, nm2, ro2, od2, le2, pa2, br2, so2, al2, ot2, hwe, h9⟩ := h
  refine ⟨sm2, at2, o2, nx2, ls2, bw2, xf2, xe2, xt2, xn2, xk2, xw2, xb2, nm2, ro2, od2, le2, pa2, br2, so2, al2, ot2, ?_, h9⟩
  simp only [List.cons.injEq, Sum.inl.injEq, Sum.inr.injEq, Prod.mk.injEq, true_and, and_true] at hwe ⊢
  exact hwe
def sp_RM_run : am_S := fun av w post => ∃ (R : sp_R) (room : Nat) (E : sp_E) (th : Int32), av = [aR 0] ∧ w.length = 19 ∧ (rm R room E th w) ∧ (ez E) ∧ (∀ w' : List am_C, rm R room (o_run R room E) 0 w' → post (some (aI (o_runv (o_run R room E)))) w')
set_option maxRecDepth 20000 in
set_option maxHeartbeats 2000000 in
theorem c_RM_run : Con y_RM_run b_RM_run 1 (some .int) 6 0 0 false sp_RM_run := by
  refine Con.of (by decide) (fun av w post h => by obtain ⟨R, room, E, th, rfl, -⟩ := h; exact Nat.le_of_ble_eq_true rfl) ?_
  intro X K hnm av w post h hr _
  obtain ⟨R, room, E, th, rfl, hlen, hw, hez, hp⟩ := h
  obtain ⟨c0, c1, c2, c3, c4, c5, c6, c7, c8, c9, c10, c11, c12, c13, c14, c15, c16, c17, c18, rfl⟩ := len19 hlen
  obtain ⟨hR, hE, hro, -⟩ := rm_vs hw
  have hU40 := hR.1.2.2.2.2
  have k34 : ∀ (E1 : sp_E) (w : List am_C), rm R room E1 0 w → (∀ w', rm R room E1 0 w' → post (some (aI (o_runv E1))) w') → AW X 34 [some (aR 0)] [] w 0 0 := by
    intro E1 w hw hp
    have h9 := hp w hw
    obtain ⟨-, hE1, -, -⟩ := rm_vs hw
    have hn3 := hE1.2.2.2.2.2.2.1
    obtain ⟨sm, at9, o, nx, ls, bw, xf, xe, xt, xn, xk, xw, xb, nm, ro, od, le, pa, br, so, al, ot, rfl, -⟩ := hw
    unfold o_runv at h9
    refine x_RM_run_34 K hr ⟨fun z => ?_, fun z => ?_⟩
    · have e : eN E1 = 0 := by
        rcases (show eN E1 = 0 ∨ eN E1 = 1 ∨ eN E1 = 2 by omega) with q | q | q
        · exact q
        · rw [q] at z; exact absurd z (by decide)
        · rw [q] at z; exact absurd z (by decide)
      rw [if_pos e] at h9; exact h9
    · have e : ¬ eN E1 = 0 := fun q => z (by rw [q]; decide)
      rw [if_neg e] at h9; exact h9
  have k9 : ∀ (t : Nat) (E1 : sp_E) (w : List am_C), rm R room E1 0 w → (¬ eN E1 = 0 ∨ room ≤ eG E1 + t) → (∀ w', rm R room (sp_on R room t E1) 0 w' → post (some (aI (o_runv (sp_on R room t E1)))) w') → AW X 9 [some (aR 0)] [] w 0 0 := by
    intro t
    induction t with
    | zero =>
      intro E1 w hw hm hp
      have hw' := hw
      obtain ⟨-, hE1, hro1, -⟩ := rm_vs hw
      have hz1 := hE1.1
      obtain ⟨sm, at9, o, nx, ls, bw, xf, xe, xt, xn, xk, xw, xb, nm, ro, od, le, pa, br, so, al, ot, rfl, -⟩ := hw
      refine x_RM_run_9 K hr c_RM_goThrough (by decide) ⟨fun z => k34 E1 _ hw' hp, fun z => ⟨fun _ => k34 E1 _ hw' hp, fun z2 => ?_⟩⟩
      have e := (rc_en0 _).mp z
      rcases hm with q | q
      · exact absurd e q
      · exact absurd (nI_le (by omega) (by omega)) z2
    | succ t ih =>
      intro E1 w hw hm hp
      have hw' := hw
      obtain ⟨-, hE1, hro1, -⟩ := rm_vs hw
      have hz1 := hE1.1
      have hstep : sp_on R room (t + 1) E1 = if eN E1 = 0 ∧ eG E1 < eZ E1 then sp_on R room t (sp_gt R room E1) else E1 := rfl
      obtain ⟨sm, at9, o, nx, ls, bw, xf, xe, xt, xn, xk, xw, xb, nm, ro, od, le, pa, br, so, al, ot, rfl, -⟩ := hw
      refine x_RM_run_9 K hr c_RM_goThrough (by decide) ⟨fun z => ?_, fun z => ⟨fun z2 => ?_, fun z2 => ?_⟩⟩
      · rw [hstep, if_neg (fun q => z ((rc_en0 _).mpr q.1))] at hp
        exact k34 E1 _ hw' hp
      · rw [hstep, if_neg (fun q => absurd z2 (nI_ge q.2 (by omega)))] at hp
        exact k34 E1 _ hw' hp
      · have e := (rc_en0 _).mp z
        have hlt : eG E1 < eZ E1 := by
          rcases Nat.lt_or_ge (eG E1) (eZ E1) with q | q
          · exact q
          · exact absurd (nI_le q (by omega)) z2
        rw [hstep, if_pos ⟨e, hlt⟩] at hp
        refine ⟨R, room, E1, 0, rfl, rfl, hw', hlt, e, fun w9 hw9 => ?_⟩
        have hw90 := hw9
        obtain ⟨sm, at9, o, nx, ls, bw, xf, xe, xt, xn, xk, xw, xb, nm, ro, od, le, pa, br, so, al, ot, rfl, -⟩ := hw9
        refine x_RM_run_31 K hr ?_
        refine ih _ _ hw90 ?_ hp
        rcases gt_G R room E1 hU40 with q | q
        · exact Or.inl q
        · right
          rcases hm with q2 | q2
          · exact absurd e q2
          · rw [q]; omega
  have hw0 := hw
  obtain ⟨sm, at9, o, nx, ls, bw, xf, xe, xt, xn, xk, xw, xb, nm, ro, od, le, pa, br, so, al, ot, hwe, -⟩ := hw
  rw [hwe] at hw0 ⊢
  clear hwe
  refine x_RM_run_0 K hr c_RM_begin (by decide) ?_
  refine ⟨R, room, E, 0, rfl, rfl, rm_th 0 hw0, hez, fun w9 hw9 => ?_⟩
  exact k9 8192 _ _ hw9 (Or.inr (by omega)) hp

/-! ===== CONTRACTS: Explorer.goThrough, begin, goOn, forget ===== -/
theorem gr_g (R : sp_R) (room f node : Nat) : ∀ (t r : Nat) (s : sp_S), eG (sp_gr R room f node t r s).1 = eG s.1 ∧ eZ s.1 ≤ eZ (sp_gr R room f node t r s).1 ∧ (sp_gr R room f node t r s).2 ≤ s.2 + 8 * t := by
  intro t
  induction t with
  | zero => intro r s; exact ⟨rfl, Nat.le_refl _, Nat.le_refl _⟩
  | succ t ih =>
    intro r s
    obtain ⟨a', b', c'⟩ := tr_g R room f node r s
    unfold sp_gr
    by_cases h : eN (sp_tr R room f node r s).1 = 0
    · rw [if_pos h]
      obtain ⟨a, b, c⟩ := ih (r + 1) (sp_tr R room f node r s)
      exact ⟨by rw [a, a'], by omega, by omega⟩
    · rw [if_neg h]; exact ⟨a', b', by omega⟩
theorem gn_g (R : sp_R) (room f : Nat) (hU : rU R ≤ 40) : ∀ (t i : Nat) (s : sp_S), eG (sp_gn R room f t i s).1 = eG s.1 ∧ eZ s.1 ≤ eZ (sp_gn R room f t i s).1 ∧ (sp_gn R room f t i s).2 ≤ s.2 + 320 * t := by
  intro t
  induction t with
  | zero => intro i s; exact ⟨rfl, Nat.le_refl _, Nat.le_refl _⟩
  | succ t ih =>
    intro i s
    obtain ⟨a', b', c'⟩ := gr_g R room f i (rU R) 0 s
    unfold sp_gn
    by_cases h : eN (sp_gr R room f i (rU R) 0 s).1 = 0
    · rw [if_pos h]
      obtain ⟨a, b, c⟩ := ih (i + 1) (sp_gr R room f i (rU R) 0 s)
      exact ⟨by rw [a, a'], by omega, by omega⟩
    · rw [if_neg h]; exact ⟨a', b', by omega⟩
theorem ev_fin {R : sp_R} {room : Nat} {s : sp_S} (h : ev R room s.1) (hg : eG s.1 < eZ s.1) : ev R room (sp_fin s) := by
  obtain ⟨⟨z, g, t, o, k, n, F, L, P, U, S, Y⟩, he⟩ := s
  obtain ⟨⟨a1, a2⟩, b, c, d, e, f, n1⟩ := h
  have hg' : g < z := hg
  refine ⟨⟨a1, hg'⟩, b, c, d, e, fun hg2 k hk => ?_, n1⟩
  have hg3 : g + 1 < z := hg2
  have h1 : L k ≤ L g + 1 := f hg k hk
  have h2 : L g ≤ L (g + 1) := e g (g + 1) (by omega) hg3
  show L k ≤ L (g + 1) + 1
  omega
/-- the class's world, whatever stands in the drafts -/
def rx (R : sp_R) (room e : Nat) (E : sp_E) (w : List am_C) : Prop := ∃ (here : Nat) (uz : Int32) (us uc : Nat → Int32), rc R room e E here uz us uc w
theorem rx_len {R : sp_R} {room e : Nat} {E : sp_E} {w : List am_C} (h : rx R room e E w) : w.length = 26 := by
  obtain ⟨here, uz, us, uc, h⟩ := h
  exact (rc_room h).2.2.2
theorem rx_vs {R : sp_R} {room e : Nat} {E : sp_E} {w : List am_C} (h : rx R room e E w) : rv R ∧ ev R room E ∧ rc_e room e := by
  obtain ⟨here, uz, us, uc, h⟩ := h
  exact ⟨(rc_room h).1, (rc_room h).2.1, (rc_room h).2.2.1⟩
def sp_Ex_goThrough : am_S := fun av w post => ∃ (R : sp_R) (room e : Nat) (E : sp_E), av = [aR 17, aI (nI (eG E))] ∧ w.length = 26 ∧ (rx R room e E w) ∧ (eG E < eZ E) ∧ (eN E = 0) ∧ (∀ w' : List am_C, rx R room e (sp_gt R room E) w' → post none w')
set_option maxRecDepth 20000 in
set_option maxHeartbeats 2000000 in
theorem c_Ex_goThrough : Con y_Ex_goThrough b_Ex_goThrough 4 none 5 0 0 false sp_Ex_goThrough := by
  refine Con.of (by decide) (fun av w post h => by obtain ⟨R, room, e, E, rfl, -⟩ := h; exact Nat.le_of_ble_eq_true rfl) ?_
  intro X K hnm av w post h hr _
  obtain ⟨R, room, e, E, rfl, hlen, hw, hg, hN, hp⟩ := h
  obtain ⟨c0, c1, c2, c3, c4, c5, c6, c7, c8, c9, c10, c11, c12, c13, c14, c15, c16, c17, c18, c19, c20, c21, c22, c23, c24, c25, rfl⟩ := len26 hlen
  obtain ⟨here, uz, us, uc, hw⟩ := hw
  obtain ⟨bp, uf, vf, uy, vz, vy, ms, me, mt, mn, mk, mw, mg, le, og, ru, sp, sy, sa, uo, vs, vc, vo, fo, hwe, hR, hE, he, hA, hS⟩ := hw
  rw [hwe]
  clear hwe
  have hz := hE.1.1
  have he2 := he.2.1
  have hvk := (hE.2.1 (eG E) hg).1
  have hU := hR.1.2.2.2.2
  have hN4 := hR.1.2.1
  obtain ⟨f, hf⟩ : ∃ f, f = eF E (eG E) := ⟨_, rfl⟩
  rw [← hf] at hvk
  refine x_Ex_goThrough_0 K hr c_Dr_load_18 (by decide) ⟨vp_in_nI (by omega) (by omega), ?_⟩
  rw [nI_clamp (by omega), (hS.1 (eG E) hg).1, ← hf]
  refine ⟨f, rN R, _, _, _, _, us, uc, rfl, rfl, rfl, rfl, rfl, by have := hvk.1; omega, hN4, fun us' uc' hus huc => ?_⟩
  refine x_Ex_goThrough_16 K hr ?_
  have hu : rc_u (rN R) f (nI (sp_n f)) us' uc' := ⟨rfl, hus, huc⟩
  have k36 : ∀ (i : Nat), i < rN R → ∀ (t r : Nat) (s : sp_S) (w : List am_C), r + t = rU R → rc R room e s.1 s.2 (nI (sp_n f)) us' uc' w → eG s.1 = eG E → eG s.1 < eZ s.1 →
      (eN s.1 = 0 → eN (sp_gr R room f i t r s).1 = 0 → ∀ w', rc R room e (sp_gr R room f i t r s).1 (sp_gr R room f i t r s).2 (nI (sp_n f)) us' uc' w' → AW X 23 [some (aR 17), some (aI (nI (eG E))), some (aI (nI (i + 1))), none] [] w' 0 0) →
      (¬ eN (sp_gr R room f i t r s).1 = 0 → ∀ w', rc R room e (sp_gr R room f i t r s).1 (sp_gr R room f i t r s).2 (nI (sp_n f)) us' uc' w' → post none w') → eN s.1 = 0 →
      AW X 36 [some (aR 17), some (aI (nI (eG E))), some (aI (nI i)), some (aI (nI r))] [] w 0 0 := by
    intro i hi t
    induction t with
    | zero =>
      intro r s w h1 hw h3 h4 h5 h6 h7
      have hw' := hw
      obtain ⟨bp, uf, vf, uy, vz, vy, ms, me, mt, mn, mk, mw, mg, le, og, ru, sp, sy, sa, uo, vs, vc, vo, fo, rfl, -⟩ := hw
      refine x_Ex_goThrough_36 K hr c_Ex_tryRule (by decide) ⟨fun _ => ?_, fun z => absurd (nI_le (by omega) (by omega)) z⟩
      rw [nI_1]
      exact h5 h7 h7 _ hw'
    | succ t ih =>
      intro r s w h1 hw h3 h4 h5 h6 h7
      have hw' := hw
      obtain ⟨bp, uf, vf, uy, vz, vy, ms, me, mt, mn, mk, mw, mg, le, og, ru, sp, sy, sa, uo, vs, vc, vo, fo, rfl, -⟩ := hw
      refine x_Ex_goThrough_36 K hr c_Ex_tryRule (by decide) ⟨fun z => absurd z (nI_ge (by omega) (by omega)), fun _ => ?_⟩
      refine ⟨R, room, e, f, i, r, s.2, s.1, nI (sp_n f), us', uc', rfl, rfl, hw', hu, hvk, hi, by omega, h4, fun w9 hw9 => ?_⟩
      obtain ⟨g1, g2, g3⟩ := tr_g R room f i r s
      have hstep : sp_gr R room f i (t + 1) r s = if eN (sp_tr R room f i r s).1 = 0 then sp_gr R room f i t (r + 1) (sp_tr R room f i r s) else sp_tr R room f i r s := rfl
      have hw9' := hw9
      obtain ⟨bp, uf, vf, uy, vz, vy, ms, me, mt, mn, mk, mw, mg, le, og, ru, sp, sy, sa, uo, vs, vc, vo, fo, rfl, -⟩ := hw9
      refine x_Ex_goThrough_53 K hr ⟨fun z => ?_, fun z => ?_⟩
      · have z' := (rc_en0 _).mp z
        rw [hstep, if_pos z'] at h5 h6
        rw [nI_1]
        exact ih (r + 1) (sp_tr R room f i r s) _ (by omega) hw9' (by rw [g1]; exact h3) (by rw [g1]; omega) (fun _ => h5 h7) h6 z'
      · have z' : ¬ eN (sp_tr R room f i r s).1 = 0 := fun h => z ((rc_en0 _).mpr h)
        rw [hstep, if_neg z'] at h6
        exact h6 z' _ hw9'
  have k23 : ∀ (t i : Nat) (s : sp_S) (w : List am_C), i + t = rN R → rc R room e s.1 s.2 (nI (sp_n f)) us' uc' w → eG s.1 = eG E → eG s.1 < eZ s.1 → eN s.1 = 0 → s.2 + 320 * t < 2 ^ 30 →
      (eN (sp_gn R room f t i s).1 = 0 → ∀ w', rx R room e (sp_fin (sp_gn R room f t i s)) w' → post none w') →
      (¬ eN (sp_gn R room f t i s).1 = 0 → ∀ w', rx R room e (sp_gn R room f t i s).1 w' → post none w') →
      AW X 23 [some (aR 17), some (aI (nI (eG E))), some (aI (nI i)), none] [] w 0 0 := by
    intro t
    induction t with
    | zero =>
      intro i s w h1 hw h3 h4 h7 hb h5 h6
      have h5' := h5 h7
      obtain ⟨⟨z, g, tt, o, k, n, F, L, P, U, S, Y⟩, hh⟩ := s
      obtain ⟨bp, uf, vf, uy, vz, vy, ms, me, mt, mn, mk, mw, mg, le, og, ru, sp, sy, sa, uo, vs, vc, vo, fo, rfl, hR, hE, he, hA, hS⟩ := hw
      have hev := ev_fin (s := ((z, g, tt, o, k, n, F, L, P, U, S, Y), hh)) hE h4
      have eg : g = eG E := h3
      have hgz : g < z := h4
      have hhb : hh + 320 * 0 < 2 ^ 30 := hb
      have hzr : z ≤ room := hE.1.1
      have hS2 : rc_S e (sp_fin ((z, g, tt, o, k, n, F, L, P, U, S, Y), hh)) fo le og ru (upd sp g (nI hh)) sy sa := by
        refine ⟨fun j hj => ?_, hS.2⟩
        obtain ⟨q1, q2, q3, q4, q5, q6⟩ := hS.1 j hj
        refine ⟨q1, q2, q3, q4, ?_, q6⟩
        show upd sp g (nI hh) j = nI (upN S g (hh + 1) j) - 1
        by_cases e1 : j = g
        · rw [e1, pk_us, upN_s, nI_pred]
        · rw [pk_un e1, upN_n _ _ e1]
          exact q5
      refine x_Ex_goThrough_23 K hr ⟨fun _ => ⟨vp_in_nI (by omega) (by omega), fun z9 => ?_, fun z9 => ?_⟩, fun q => absurd (nI_le (by omega) (by omega)) q⟩
      · rw [nI_clamp (by omega), nI_1, ← eg]
        have e0 : hh ≠ 0 := fun q => z9 (by show nI hh = 0; rw [q]; rfl)
        have efin : (if hh = 0 then k + 1 else k) = k := if_neg e0
        refine h5' _ ⟨hh, nI (sp_n f), us', uc', bp, uf, vf, uy, vz, vy, ms, me, mt, mn, mk, mw, mg, le, og, ru, upd sp g (nI hh), sy, sa, uo, vs, vc, vo, fo, ?_, hR, hev, he, hA, hS2⟩
        show _ = [oC 0 [aR 1, aR 9, aR 17], cMo (nI (rN R)) (nI (rS R)) (nI (rK R)) (nI (rU R)) bp, iC 40 ms, iC 40 me, iC 40 mt, iC 40 mn, iC 160 mk, iC 160 mw, iC 40 mg, cSt (nI z), jC room fo, iC room le, iC room og, iC room ru, iC room (upd sp g (nI hh)), iC room sy, iC (2 ^ e) sa, cEx (rc_en n) (nI (g + 1)) (nI tt) (nI o) (nI (if hh = 0 then k + 1 else k)) (nI (rc_sd (sp_fc (rN R)) Y z)) (nI hh), cDu (nI (rN R)) (nI (sp_fc (rN R))) (nI (sp_n f)) uf uy, iC 4 us', iC 7 uc', iC 7 uo, cDv (nI (rN R)) (nI (sp_fc (rN R))) vz vf vy, iC 4 vs, iC 7 vc, iC 7 vo]
        rw [efin]
      · rw [nI_clamp (by omega), nI_1, nI_1, ← eg]
        have e0 : hh = 0 := by
          have := (nI_eq (a := hh) (b := 0) (by omega) (by omega)).mp z9
          exact this
        have efin : (if hh = 0 then k + 1 else k) = k + 1 := if_pos e0
        refine h5' _ ⟨hh, nI (sp_n f), us', uc', bp, uf, vf, uy, vz, vy, ms, me, mt, mn, mk, mw, mg, le, og, ru, upd sp g (nI hh), sy, sa, uo, vs, vc, vo, fo, ?_, hR, hev, he, hA, hS2⟩
        show _ = [oC 0 [aR 1, aR 9, aR 17], cMo (nI (rN R)) (nI (rS R)) (nI (rK R)) (nI (rU R)) bp, iC 40 ms, iC 40 me, iC 40 mt, iC 40 mn, iC 160 mk, iC 160 mw, iC 40 mg, cSt (nI z), jC room fo, iC room le, iC room og, iC room ru, iC room (upd sp g (nI hh)), iC room sy, iC (2 ^ e) sa, cEx (rc_en n) (nI (g + 1)) (nI tt) (nI o) (nI (if hh = 0 then k + 1 else k)) (nI (rc_sd (sp_fc (rN R)) Y z)) (nI hh), cDu (nI (rN R)) (nI (sp_fc (rN R))) (nI (sp_n f)) uf uy, iC 4 us', iC 7 uc', iC 7 uo, cDv (nI (rN R)) (nI (sp_fc (rN R))) vz vf vy, iC 4 vs, iC 7 vc, iC 7 vo]
        rw [efin]
    | succ t ih =>
      intro i s w h1 hw h3 h4 h7 hb h5 h6
      have hstep : sp_gn R room f (t + 1) i s = if eN (sp_gr R room f i (rU R) 0 s).1 = 0 then sp_gn R room f t (i + 1) (sp_gr R room f i (rU R) 0 s) else sp_gr R room f i (rU R) 0 s := rfl
      have hw' := hw
      obtain ⟨bp, uf, vf, uy, vz, vy, ms, me, mt, mn, mk, mw, mg, le, og, ru, sp, sy, sa, uo, vs, vc, vo, fo, rfl, -⟩ := hw
      refine x_Ex_goThrough_23 K hr ⟨fun q => absurd q (nI_ge (by omega) (by omega)), fun _ => ?_⟩
      obtain ⟨g1, g2, g3⟩ := gr_g R room f i (rU R) 0 s
      refine k36 i (by omega) (rU R) 0 s _ (by omega) hw' h3 h4 (fun _ z w' hw9 => ?_) (fun z w' hw9 => ?_) h7
      · rw [hstep, if_pos z] at h5 h6
        exact ih (i + 1) (sp_gr R room f i (rU R) 0 s) w' (by omega) hw9 (by rw [g1]; exact h3) (by rw [g1]; omega) z (by omega) h5 h6
      · rw [hstep, if_neg z] at h6
        exact h6 z w' ⟨_, _, us', uc', hw9⟩
  have hfirst : rc R room e E 0 (nI (sp_n f)) us' uc' [oC 0 [aR 1, aR 9, aR 17], cMo (nI (rN R)) (nI (rS R)) (nI (rK R)) (nI (rU R)) bp, iC 40 ms, iC 40 me, iC 40 mt, iC 40 mn, iC 160 mk, iC 160 mw, iC 40 mg, cSt (nI (eZ E)), jC room fo, iC room le, iC room og, iC room ru, iC room sp, iC room sy, iC (2 ^ e) sa, cEx (rc_en (eN E)) (nI (eG E)) (nI (eT E)) (nI (eO E)) (nI (eK E)) (nI (rc_sd (sp_fc (rN R)) (eY E) (eZ E))) 0, cDu (nI (rN R)) (nI (sp_fc (rN R))) (nI (sp_n f)) uf uy, iC 4 us', iC 7 uc', iC 7 uo, cDv (nI (rN R)) (nI (sp_fc (rN R))) vz vf vy, iC 4 vs, iC 7 vc, iC 7 vo] := ⟨bp, uf, vf, uy, vz, vy, ms, me, mt, mn, mk, mw, mg, le, og, ru, sp, sy, sa, uo, vs, vc, vo, fo, rfl, hR, hE, he, hA, hS⟩
  refine k23 (rN R) 0 (E, 0) _ (by omega) hfirst rfl hg hN (by show 0 + 320 * rN R < 2 ^ 30; omega) (fun z w' hw9 => ?_) (fun z w' hw9 => ?_)
  · refine hp w' ?_
    unfold sp_gt
    rw [← hf, if_pos z]
    exact hw9
  · refine hp w' ?_
    unfold sp_gt
    rw [← hf, if_neg z]
    exact hw9
theorem sp_st0 (i : Nat) : sp_st 0 i = 0 := by unfold sp_st; rw [Nat.zero_div]
theorem sp_n0 : sp_n 0 = 0 := by decide +kernel
theorem sp_cs0 : sp_cs 0 = [] := by decide +kernel
def sp_Ex_begin : am_S := fun av w post => ∃ (R : sp_R) (room e : Nat) (E : sp_E), av = [aR 17] ∧ w.length = 26 ∧ (rx R room e E w) ∧ (eZ E = 0) ∧ (∀ w' : List am_C, rx R room e (sp_tk R E (fun _ => 0) [] 0 0) w' → post none w')
set_option maxRecDepth 20000 in
set_option maxHeartbeats 2000000 in
theorem c_Ex_begin : Con y_Ex_begin b_Ex_begin 1 none 3 0 0 false sp_Ex_begin := by
  refine Con.of (by decide) (fun av w post h => by obtain ⟨R, room, e, E, rfl, -⟩ := h; exact Nat.le_of_ble_eq_true rfl) ?_
  intro X K hnm av w post h hr _
  obtain ⟨R, room, e, E, rfl, hlen, hw, hz0, hp⟩ := h
  obtain ⟨c0, c1, c2, c3, c4, c5, c6, c7, c8, c9, c10, c11, c12, c13, c14, c15, c16, c17, c18, c19, c20, c21, c22, c23, c24, c25, rfl⟩ := len26 hlen
  obtain ⟨here, uz, us, uc, hw⟩ := hw
  obtain ⟨bp, uf, vf, uy, vz, vy, ms, me, mt, mn, mk, mw, mg, le, og, ru, sp, sy, sa, uo, vs, vc, vo, fo, hwe, hR, hE, he, hA, hS, hsl⟩ := hw
  rw [hwe]
  clear hwe
  obtain ⟨⟨hN1, hN4, hS8, hK6, hU40⟩, hRu, hRs⟩ := id hR
  obtain ⟨hA1, hA2, hA3⟩ := id hA
  obtain ⟨sl, hsa, hT⟩ := id hsl
  obtain ⟨he1, he2, he3, he4, he5⟩ := id he
  have hvc : sp_vc (rN R) [] := fun c h => by cases h
  have hst : ∀ i, i < rN R → (fun _ : Nat => 0) i < 8 := fun _ _ => by show 0 < 8; omega
  have hsym := sp_sym_pos (st := fun _ => 0) (cs := []) hN1 hN4 hst (fun c h => (hvc c h).1)
  have hkey := sp_can_vk (st := fun _ => 0) (cs := []) hN1 hN4 hst hvc (by show 0 ≤ 7; omega)
  have hno : sp_is E (sp_can (rN R) (fun _ => 0) []) = false := by
    cases h : sp_is E (sp_can (rN R) (fun _ => 0) []) with
    | false => rfl
    | true =>
      obtain ⟨i, hi, -⟩ := sp_is_iff.mp h
      omega
  have hev := ev_tk (par := 0) (rul := 0) hR hE (show eZ E < room by omega) hst hvc (by show 0 ≤ 7; omega) hno (Or.inl ⟨rfl, hz0⟩)
  refine x_Ex_begin_0 K hr c_Dr_load_22 (by decide) ?_
  refine ⟨0, rN R, _, _, _, _, vs, vc, rfl, rfl, rfl, rfl, rfl, by decide, hN4, fun vs' vc' h1 h2 => ?_⟩
  refine x_Ex_begin_8 K hr c_Dr_settle (by decide) ?_
  rw [sp_cs0] at h2
  have hvs : ∀ i, i < rN R → vs' i = nI ((fun _ : Nat => 0) i) ∧ (fun _ : Nat => 0) i < 8 := fun i hi => ⟨by rw [h1 i hi, sp_st0], hst i hi⟩
  refine ⟨rN R, _, _, vs', vc', vo, fun _ => 0, [], rfl, rfl, by rw [sp_n0]; rfl, rfl, rfl, rfl, hN4, hvs, h2, by show 0 ≤ 7; omega, fun c h => (hvc c h).1, fun so' => ?_⟩
  rw [sp_ck_best hN1 hN4 hvc, sp_ck_cnt hN1 hN4 hvc]
  refine x_Ex_begin_15 K hr c_St_slotOf (by decide) ?_
  refine ⟨_, eZ E, room, e, eF E, sl, fo, sa, rfl, rfl, rfl, rfl, rfl, by have := hkey.1; omega, he3, he4, hE.1.1, by omega, fun k hk => ⟨(hS k hk).1, by have := (hE.2.1 k hk).1.1; omega⟩, hsa, hT, fun p hp1 hp2 => ?_⟩
  have hpow : 2 ^ e ≤ 2 ^ 20 := Nat.pow_le_pow_right (by decide) he4
  refine x_Ex_begin_30 K hr c_Ex_take (by decide) ?_
  rcases hp2 with ⟨h0, -, d, hd⟩ | ⟨k, hk1, -⟩
  · refine ⟨nI p, (-1), (-1), _, _, _, _, _, _, _, _, _, _, _, rN R, eZ E, room, 2 ^ e, _, _, bp, _, rB R, fun _ => 0, fo, le, og, ru, sp, sy, sa, _, rfl, rfl, rfl, rfl, rfl, rfl, rfl, rfl, rfl, rfl, rfl, rfl, rfl, rfl, by omega, by omega, vp_in_nI hp1 (by omega), hsym.1, hsym.2, hN4, hvs, hA3, hRs, ?_⟩
    refine x_Ex_begin_35 K hr ?_
    rw [nI_clamp (n := p) (by omega), if_neg (fun q => absurd q.1 (by decide)), nI_div (by have := sp_fc_le (rN R); omega) (by omega) (by omega), nI_add]
    have hen : (if sp_bw (rN R) (rB R) (fun _ => 0) = true then (-2) else rc_en (eN E)) = rc_en (if sp_bw (rN R) (rB R) (fun _ => 0) = true then 2 else eN E) := by
      split
      · rfl
      · rfl
    have hsd : rc_sd (sp_fc (rN R)) (eY E) (eZ E) + sp_fc (rN R) / sp_sym (rN R) (fun _ => 0) [] = rc_sd (sp_fc (rN R)) (upN (eY E) (eZ E) (sp_sym (rN R) (fun _ => 0) [])) (eZ E + 1) := by
      show _ = rc_sd _ _ (eZ E) + _
      rw [rc_sd_up _ _ _ _ _ (Nat.le_refl _), upN_s]
    rw [hen, hsd]
    have hSS := sp_tk_S (R := R) (E := E) (st := fun _ => 0) (cs := []) (par := 0) (rul := 0) (p := p) (lv := 0) hS hsa hT (show eZ E + 1 < 2 ^ e by omega) hp1 h0 hd rfl
    exact hp _ ⟨here, uz, us, uc, bp, uf, _, uy, _, _, ms, me, mt, mn, mk, mw, mg, _, _, _, _, _, _, uo, _, vc', so', _, rfl, hR, hev, he, hA, hSS⟩
  · omega
def sp_Ex_goOn : am_S := fun av w post => ∃ (R : sp_R) (room e n : Nat) (E : sp_E), av = [aR 17, aI (nI n)] ∧ w.length = 26 ∧ (rx R room e E w) ∧ (n < 2 ^ 30) ∧ (∀ w' : List am_C, rx R room e (sp_on R room n (sp_bg R E)) w' → post none w')
set_option maxRecDepth 20000 in
set_option maxHeartbeats 2000000 in
theorem c_Ex_goOn : Con y_Ex_goOn b_Ex_goOn 3 none 6 0 0 false sp_Ex_goOn := by
  refine Con.of (by decide) (fun av w post h => by obtain ⟨R, room, e, n, E, rfl, -⟩ := h; exact Nat.le_of_ble_eq_true rfl) ?_
  intro X K hnm av w post h hr _
  obtain ⟨R, room, e, n, E, rfl, hlen, hw, hn, hp⟩ := h
  obtain ⟨c0, c1, c2, c3, c4, c5, c6, c7, c8, c9, c10, c11, c12, c13, c14, c15, c16, c17, c18, c19, c20, c21, c22, c23, c24, c25, rfl⟩ := len26 hlen
  have key : ∀ (t i : Nat) (E : sp_E) (w : List am_C), i + t = n → rx R room e E w → (∀ w' : List am_C, rx R room e (sp_on R room t E) w' → post none w') → AW X 16 [some (aR 17), some (aI (nI n)), some (aI (nI i))] [] w 0 0 := by
    intro t
    induction t with
    | zero =>
      intro i E w h1 hw hp
      have h9 := hp _ hw
      obtain ⟨here, uz, us, uc, bp, uf, vf, uy, vz, vy, ms, me, mt, mn, mk, mw, mg, le, og, ru, sp, sy, sa, uo, vs, vc, vo, fo, rfl, -⟩ := hw
      exact x_Ex_goOn_16 K hr c_Ex_goThrough (by decide) ⟨fun _ => h9, fun z => absurd (nI_le (by omega) (by omega)) z⟩
    | succ t ih =>
      intro i E w h1 hw hp
      have hw' := hw
      obtain ⟨hR, hE, he⟩ := rx_vs hw
      have hb1 := hE.1
      have hb2 := he.2.1
      have hstep : sp_on R room (t + 1) E = if eN E = 0 ∧ eG E < eZ E then sp_on R room t (sp_gt R room E) else E := rfl
      obtain ⟨here, uz, us, uc, bp, uf, vf, uy, vz, vy, ms, me, mt, mn, mk, mw, mg, le, og, ru, sp, sy, sa, uo, vs, vc, vo, fo, rfl, -⟩ := hw
      refine x_Ex_goOn_16 K hr c_Ex_goThrough (by decide) ⟨fun z => absurd z (nI_ge (by omega) (by omega)), fun _ => ⟨fun z => ?_, fun z => ⟨fun z2 => ?_, fun z2 => ?_⟩⟩⟩
      · rw [hstep, if_neg (fun h => z ((rc_en0 _).mpr h.1))] at hp
        exact hp _ hw'
      · rw [hstep, if_neg (fun h => absurd z2 (nI_ge h.2 (by omega)))] at hp
        exact hp _ hw'
      · have h0 : eN E = 0 := (rc_en0 _).mp z
        have hlt : eG E < eZ E := by
          rcases Nat.lt_or_ge (eG E) (eZ E) with h | h
          · exact h
          · exact absurd (nI_le h (by omega)) z2
        rw [hstep, if_pos ⟨h0, hlt⟩] at hp
        refine ⟨R, room, e, E, rfl, rfl, hw', hlt, h0, fun w9 hw9 => ?_⟩
        have hw9' := hw9
        obtain ⟨here, uz, us, uc, bp, uf, vf, uy, vz, vy, ms, me, mt, mn, mk, mw, mg, le, og, ru, sp, sy, sa, uo, vs, vc, vo, fo, rfl, -⟩ := hw9
        refine x_Ex_goOn_50 K hr ?_
        rw [nI_1]
        exact ih (i + 1) _ _ (by omega) hw9' hp
  have at14 : ∀ (E : sp_E) (w : List am_C), rx R room e E w → (∀ w' : List am_C, rx R room e (sp_on R room n E) w' → post none w') → AW X 14 [some (aR 17), some (aI (nI n)), none] [] w 0 0 := by
    intro E w hw hp
    have hw' := hw
    obtain ⟨here, uz, us, uc, bp, uf, vf, uy, vz, vy, ms, me, mt, mn, mk, mw, mg, le, og, ru, sp, sy, sa, uo, vs, vc, vo, fo, rfl, -⟩ := hw
    refine x_Ex_goOn_14 K hr ?_
    exact key n 0 E _ (by omega) hw' hp
  obtain ⟨hR, hE, he⟩ := rx_vs hw
  have hb1 := hE.1
  have hb2 := he.2.1
  have hw' := hw
  obtain ⟨here, uz, us, uc, bp, uf, vf, uy, vz, vy, ms, me, mt, mn, mk, mw, mg, le, og, ru, sp, sy, sa, uo, vs, vc, vo, fo, hwe, -⟩ := hw
  rw [hwe] at hw' ⊢
  clear hwe
  refine x_Ex_goOn_0 K hr c_Ex_begin (by decide) ⟨fun z => ?_, fun z => ?_⟩
  · have e0 : ¬ eZ E = 0 := fun h => z (by rw [h]; rfl)
    unfold sp_bg at hp
    rw [if_neg e0] at hp
    exact at14 E _ hw' hp
  · have e0 : eZ E = 0 := (nI_eq (b := 0) (by omega) (by omega)).mp z
    unfold sp_bg at hp
    rw [if_pos e0] at hp
    refine ⟨R, room, e, E, rfl, rfl, hw', e0, fun w9 hw9 => ?_⟩
    exact at14 _ _ hw9 hp
theorem st_c_0 (n : Nat) : st_c (fun _ => 0) n = 0 := by
  induction n with
  | zero => rfl
  | succ n ih => unfold st_c; rw [ih]; rfl
theorem ev_E0 (R : sp_R) (room : Nat) (F L P U S Y : Nat → Nat) : ev R room (sp_E0 F L P U S Y) := by
  refine ⟨⟨Nat.zero_le _, Nat.le_refl _⟩, fun k h => ?_, fun i j h => ?_, fun k h => ?_, fun i j _ h => ?_, fun h => ?_, ?_, fun h => ?_⟩
  · exact absurd h (Nat.not_lt_zero _)
  · exact absurd h (Nat.not_lt_zero _)
  · exact absurd h (Nat.not_lt_zero _)
  · exact absurd h (Nat.not_lt_zero _)
  · exact absurd h (Nat.not_lt_zero _)
  · show 0 < 3; omega
  · exact absurd (show 0 = 2 from h) (by omega)
def sp_Ex_forget : am_S := fun av w post => ∃ (R : sp_R) (room e : Nat) (E : sp_E), av = [aR 17] ∧ w.length = 26 ∧ (rx R room e E w) ∧ (∀ w' : List am_C, rx R room e (sp_E0 (eF E) (eL E) (eP E) (eR E) (eS E) (eY E)) w' → post none w')
set_option maxRecDepth 20000 in
set_option maxHeartbeats 2000000 in
theorem c_Ex_forget : Con y_Ex_forget b_Ex_forget 1 none 2 0 0 false sp_Ex_forget := by
  refine Con.of (by decide) (fun av w post h => by obtain ⟨R, room, e, E, rfl, -⟩ := h; exact Nat.le_of_ble_eq_true rfl) ?_
  intro X K hnm av w post h hr _
  obtain ⟨R, room, e, E, rfl, hlen, hw, hp⟩ := h
  obtain ⟨c0, c1, c2, c3, c4, c5, c6, c7, c8, c9, c10, c11, c12, c13, c14, c15, c16, c17, c18, c19, c20, c21, c22, c23, c24, c25, rfl⟩ := len26 hlen
  obtain ⟨here, uz, us, uc, hw⟩ := hw
  obtain ⟨bp, uf, vf, uy, vz, vy, ms, me, mt, mn, mk, mw, mg, le, og, ru, sp, sy, sa, uo, vs, vc, vo, fo, hwe, hR, hE, he, hA, hS, hsl⟩ := hw
  rw [hwe]
  clear hwe
  obtain ⟨sl, hsa, hT⟩ := id hsl
  obtain ⟨he1, he2, he3, he4, he5⟩ := id he
  have hpow : 2 ^ e ≤ 2 ^ 20 := Nat.pow_le_pow_right (by decide) he4
  have hb := hE.1
  refine x_Ex_forget_0 K hr c_St_clear (by decide) ?_
  refine ⟨_, 2 ^ e, sa, rfl, rfl, rfl, rfl, by omega, fun z => ?_, fun z => ?_⟩
  · have e0 : eZ E = 0 := by
      rcases Nat.eq_zero_or_pos (eZ E) with h | h
      · exact h
      · exact absurd z (nI_nle h (by omega))
    refine x_Ex_forget_7 K hr ?_
    refine hp _ ⟨here, uz, us, uc, bp, uf, vf, uy, vz, vy, ms, me, mt, mn, mk, mw, mg, le, og, ru, sp, sy, sa, uo, vs, vc, vo, fo, ?_, hR, ev_E0 _ _ _ _ _ _ _ _, he, hA, fun k h => absurd h (Nat.not_lt_zero _), sl, hsa, ?_⟩
    · rw [e0]; rfl
    · rw [e0] at hT; exact hT
  · refine x_Ex_forget_7 K hr ?_
    refine hp _ ⟨here, uz, us, uc, bp, uf, vf, uy, vz, vy, ms, me, mt, mn, mk, mw, mg, le, og, ru, sp, sy, _, uo, vs, vc, vo, fo, rfl, hR, ev_E0 _ _ _ _ _ _ _ _, he, hA, fun k h => absurd h (Nat.not_lt_zero _), fun _ => 0, fun p h => ?_, ?_⟩
    · show (if p < 2 ^ e then (0 : Int32) else sa p) = nI 0
      rw [if_pos h]; rfl
    · exact ⟨fun _ _ => Nat.le_refl _, fun k h => absurd h (Nat.not_lt_zero _), st_c_0 _, by show 0 < 2 ^ e; exact Nat.two_pow_pos e⟩

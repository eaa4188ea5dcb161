/-! ===== CONTRACTS: Explorer.tryRule, goThrough, begin, goOn, forget ===== -/
theorem mk_g (R : sp_R) (room f node r recv : Nat) (s : sp_S) : eG (sp_mk R room f node r recv s).1 = eG s.1 ∧ eZ s.1 ≤ eZ (sp_mk R room f node r recv s).1 ∧ (sp_mk R room f node r recv s).2 = s.2 + 1 := by
  obtain ⟨⟨z, g, t, o, k, n, F, L, P, U, S, Y⟩, h⟩ := s
  unfold sp_mk
  dsimp only
  by_cases h1 : sp_is (z, g, t, o, k, n, F, L, P, U, S, Y) (sp_can (rN R) (sp_ns R f node r) (sp_nc R f node r recv)) = true
  · rw [if_pos h1]; exact ⟨rfl, Nat.le_refl _, rfl⟩
  · rw [if_neg h1]
    by_cases h2 : z = room
    · rw [if_pos h2]; exact ⟨rfl, Nat.le_refl _, rfl⟩
    · rw [if_neg h2]; exact ⟨rfl, Nat.le_succ _, rfl⟩
theorem tc_g (R : sp_R) (room f node r : Nat) : ∀ (t i : Nat) (s : sp_S), eG (sp_tc R room f node r t i s).1 = eG s.1 ∧ eZ s.1 ≤ eZ (sp_tc R room f node r t i s).1 ∧ (sp_tc R room f node r t i s).2 ≤ s.2 + t := by
  intro t
  induction t with
  | zero => intro i s; exact ⟨rfl, Nat.le_refl _, Nat.le_refl _⟩
  | succ t ih =>
    intro i s
    unfold sp_tc
    by_cases h : eN s.1 = 0
    · rw [if_pos h]
      split
      · obtain ⟨a, b, c⟩ := ih (i + 1) (sp_mk R room f node r (i + 1) s)
        obtain ⟨a', b', c'⟩ := mk_g R room f node r (i + 1) s
        exact ⟨by rw [a, a'], by omega, by omega⟩
      · obtain ⟨a, b, c⟩ := ih (i + 1) s
        exact ⟨a, b, by omega⟩
    · rw [if_neg h]; exact ⟨rfl, Nat.le_refl _, by omega⟩
theorem tr_g (R : sp_R) (room f node r : Nat) (s : sp_S) : eG (sp_tr R room f node r s).1 = eG s.1 ∧ eZ s.1 ≤ eZ (sp_tr R room f node r s).1 ∧ (sp_tr R room f node r s).2 ≤ s.2 + 8 := by
  unfold sp_tr
  by_cases h1 : sp_st f node = rF R r ∧ sp_n f + sp_gw R r (rC R r) ≤ (if rV R r = 0 then 7 else 8)
  · rw [if_pos h1]
    by_cases h2 : rV R r = 0
    · rw [if_pos h2]
      obtain ⟨a, b, c⟩ := mk_g R room f node r 0 s
      exact ⟨a, b, by omega⟩
    · rw [if_neg h2]
      obtain ⟨a, b, c⟩ := tc_g R room f node r (sp_n f) 0 s
      have := sp_n_le f
      exact ⟨a, b, by omega⟩
  · rw [if_neg h1]; exact ⟨rfl, Nat.le_refl _, by omega⟩
theorem rc_en0 (n : Nat) : rc_en n = 0 ↔ n = 0 := by
  unfold rc_en
  split
  · next h => simp [h]
  · next h =>
    split
    · constructor
      · intro e; exact absurd e (by decide)
      · intro e; exact absurd e h
    · constructor
      · intro e; exact absurd e (by decide)
      · intro e; exact absurd e h
theorem bt_s4 : ∀ c, c < 96 → nI c >>> ((4 : Int32) &&& 31) = nI (c / 16) := by decide +kernel
theorem rc_room {R : sp_R} {room e : Nat} {E : sp_E} {here : Nat} {uz : Int32} {us uc : Nat → Int32} {w : List am_C} (h : rc R room e E here uz us uc w) : rv R ∧ ev R room E ∧ rc_e room e ∧ w.length = 26 := by
  obtain ⟨bp, uf, vf, uy, vz, vy, ms, me, mt, mn, mk, mw, mg, le, og, ru, sp, sy, sa, uo, vs, vc, vo, fo, rfl, hR, hE, he, hA, hS⟩ := h
  exact ⟨hR, hE, he, rfl⟩
def sp_Ex_tryRule : am_S := fun av w post => ∃ (R : sp_R) (room e f node r here : Nat) (E : sp_E) (uz : Int32) (us uc : Nat → Int32), av = [aR 17, aI (nI node), aI (nI r)] ∧ w.length = 26 ∧ (rc R room e E here uz us uc w) ∧ (rc_u (rN R) f uz us uc) ∧ (sp_vk (rN R) f) ∧ (node < rN R) ∧ (r < rU R) ∧ (eG E < eZ E) ∧ (∀ w' : List am_C, rc R room e (sp_tr R room f node r (E, here)).1 (sp_tr R room f node r (E, here)).2 uz us uc w' → post none w')
set_option maxRecDepth 20000 in
set_option maxHeartbeats 2000000 in
theorem c_Ex_tryRule : Con y_Ex_tryRule b_Ex_tryRule 7 none 4 0 0 false sp_Ex_tryRule := by
  refine Con.of (by decide) (fun av w post h => by obtain ⟨R, room, e, f, node, r, here, E, uz, us, uc, rfl, -⟩ := h; exact Nat.le_of_ble_eq_true rfl) ?_
  intro X K hnm av w post h hr _
  obtain ⟨R, room, e, f, node, r, here, E, uz, us, uc, rfl, hlen, hw, hu, hk, hn, hrU, hg, hp⟩ := h
  obtain ⟨c0, c1, c2, c3, c4, c5, c6, c7, c8, c9, c10, c11, c12, c13, c14, c15, c16, c17, c18, c19, c20, c21, c22, c23, c24, c25, rfl⟩ := len26 hlen
  have hw0 := hw
  obtain ⟨bp, uf, vf, uy, vz, vy, ms, me, mt, mn, mk, mw, mg, le, og, ru, sp, sy, sa, uo, vs, vc, vo, fo, hwe, hR, hE, he, hA, hS, hsl⟩ := hw
  rw [hwe] at hw0 ⊢
  clear hwe
  obtain ⟨hu1, hu2, hu3⟩ := id hu
  obtain ⟨⟨hN1, hN4, hS8, hK6, hU40⟩, hRu, hRs⟩ := id hR
  obtain ⟨hA1, hA2, hA3⟩ := id hA
  obtain ⟨a1, a2, a3, a4, a5, a6⟩ := hA1 r hrU
  obtain ⟨b1, b2, b3, b4, b5⟩ := hRu r hrU
  have hcl := sp_cs_len f
  have hn7 := sp_n_le f
  have hgw12 : sp_gw R r (rC R r) ≤ 12 := by
    have : ∀ n, n ≤ rC R r → sp_gw R r n ≤ 3 * n := by
      intro n
      induction n with
      | zero => intro _; exact Nat.le_refl _
      | succ n ih =>
        intro h
        have h1 := ih (by omega)
        show sp_gw R r n + (if rW R (4 * r + n) = 0 then 1 else rN R - 1) ≤ _
        split <;> omega
    have := this _ (Nat.le_refl _)
    omega
  subst hu1
  refine x_Ex_tryRule_0 K hr c_Ex_makeStep (by decide) ⟨vp_in_nI (by omega) (by decide), vp_in_nI (by omega) (by decide), ?_⟩
  rw [nI_clamp (n := node) (by omega), nI_clamp (n := r) (by omega), hu2 node hn, a1, a2, a5]
  have hst8 := sp_st_lt f node
  have hinr : vp_in (nI r) 40 := vp_in_nI (by omega) (by decide)
  have hgr : nI (sp_n f) + (nI (sp_gw R r (rC R r)) + if rV R r = 0 then 0 else (-1)) ≤ 7 ↔ sp_n f + sp_gw R r (rC R r) ≤ (if rV R r = 0 then 7 else 8) := by
    by_cases hv : rV R r = 0
    · rw [if_pos hv, if_pos hv]
      have e1 : nI (sp_gw R r (rC R r)) + (0 : Int32) = nI (sp_gw R r (rC R r)) := by
        have : nI (sp_gw R r (rC R r)) + nI 0 = nI (sp_gw R r (rC R r) + 0) := nI_add _ 0
        exact this
      rw [e1, nI_add]
      exact nI_leI (b := 7) (by omega) (by decide)
    · rw [if_neg hv, if_neg hv]
      have e1 : nI (sp_n f) + (nI (sp_gw R r (rC R r)) + (-1)) = nI (sp_n f + sp_gw R r (rC R r)) + (-1) := by
        rw [← Int32.add_assoc, nI_add]
      rw [e1]
      by_cases h0 : sp_n f + sp_gw R r (rC R r) = 0
      · rw [h0]
        constructor
        · intro _; omega
        · intro _; decide
      · obtain ⟨q, hq⟩ : ∃ q, sp_n f + sp_gw R r (rC R r) = q + 1 := ⟨sp_n f + sp_gw R r (rC R r) - 1, by omega⟩
        rw [hq, pk_m1]
        have := nI_leI (a := q) (b := 7) (by omega) (by decide)
        constructor
        · intro h; have := this.mp h; omega
        · intro h; exact this.mpr (by omega)
  have hcmp : nI (sp_st f node) = nI (rF R r) ↔ sp_st f node = rF R r := nI_eq (by omega) (by omega)
  by_cases hc : sp_st f node = rF R r ∧ sp_n f + sp_gw R r (rC R r) ≤ (if rV R r = 0 then 7 else 8)
  · refine ⟨fun z => absurd (hcmp.mpr hc.1) z, fun _ => ⟨hinr, fun _ => ⟨hinr, fun z => ?_, fun z => ?_⟩, fun z => absurd (hgr.mpr hc.2) z⟩⟩
    · have hv : rV R r ≠ 0 := fun h => z ((nI_m1 (by omega)).mpr h)
      obtain ⟨v, hv1⟩ : ∃ v, rV R r = v + 1 := ⟨rV R r - 1, by omega⟩
      rw [hv1, nI_pred]
      have etr : sp_tr R room f node r (E, here) = sp_tc R room f node r (sp_n f) 0 (E, here) := by
        unfold sp_tr
        rw [if_pos hc, if_neg hv]
      rw [etr] at hp
      have key : ∀ (t i : Nat) (s : sp_S) (w : List am_C), i + t = sp_n f → rc R room e s.1 s.2 (nI (sp_n f)) us uc w → eG s.1 < eZ s.1 → (∀ w' : List am_C, rc R room e (sp_tc R room f node r t i s).1 (sp_tc R room f node r t i s).2 (nI (sp_n f)) us uc w' → post none w') → AW X 70 [some (aR 17), some (aI (nI node)), some (aI (nI r)), some (aI (nI v)), some (aI (nI i)), none, none] [] w 0 0 := by
        intro t
        induction t with
        | zero =>
          intro i s w h1 hw h3 hp
          have hw' := hw
          obtain ⟨bp, uf, vf, uy, vz, vy, ms, me, mt, mn, mk, mw, mg, le, og, ru, sp, sy, sa, uo, vs, vc, vo, fo, rfl, hR, hE, he, hA, hS, hsl⟩ := hw
          refine x_Ex_tryRule_70 K hr ⟨fun _ => hp _ hw', fun z => absurd (nI_le (by omega) (by omega)) z⟩
        | succ t ih =>
          intro i s w h1 hw h3 hp
          have hw' := hw
          obtain ⟨bp, uf, vf, uy, vz, vy, ms, me, mt, mn, mk, mw, mg, le, og, ru, sp, sy, sa, uo, vs, vc, vo, fo, rfl, -⟩ := hw
          obtain ⟨hmem, hget⟩ := sp_getD_mem (l := sp_cs f) (i := i) (by omega)
          have hci := hk.2.1 _ hmem
          have huci : uc i = nI ((sp_cs f).getD i 0) := by
            have := hu3 i _ hget
            rwa [Nat.zero_add] at this
          have hstep : sp_tc R room f node r (t + 1) i s = if eN s.1 = 0 then sp_tc R room f node r t (i + 1) (if (i = 0 ∨ (sp_cs f).getD (i - 1) 0 ≠ (sp_cs f).getD i 0) ∧ (sp_cs f).getD i 0 / 16 + 1 = rV R r ∧ (sp_cs f).getD i 0 % 4 = node then sp_mk R room f node r (i + 1) s else s) else s := rfl
          refine x_Ex_tryRule_70 K hr ⟨fun z => absurd z (nI_ge (by omega) (by omega)), fun _ => ⟨fun z => ?_, fun z => ⟨vp_in_nI (by omega) (by decide), ?_⟩⟩⟩
          · rw [hstep, if_neg (fun h => z ((rc_en0 _).mpr h))] at hp
            exact hp _ hw'
          · have hen : eN s.1 = 0 := (rc_en0 _).mp z
            rw [hstep, if_pos hen] at hp
            have skip : ¬ ((i = 0 ∨ (sp_cs f).getD (i - 1) 0 ≠ (sp_cs f).getD i 0) ∧ (sp_cs f).getD i 0 / 16 + 1 = rV R r ∧ (sp_cs f).getD i 0 % 4 = node) → AW X 159 [some (aR 17), some (aI (nI node)), some (aI (nI r)), some (aI (nI v)), some (aI (nI i)), none, none] [] [oC 0 [aR 1, aR 9, aR 17], cMo (nI (rN R)) (nI (rS R)) (nI (rK R)) (nI (rU R)) bp, iC 40 ms, iC 40 me, iC 40 mt, iC 40 mn, iC 160 mk, iC 160 mw, iC 40 mg, cSt (nI (eZ s.1)), jC room fo, iC room le, iC room og, iC room ru, iC room sp, iC room sy, iC (2 ^ e) sa, cEx (rc_en (eN s.1)) (nI (eG s.1)) (nI (eT s.1)) (nI (eO s.1)) (nI (eK s.1)) (nI (rc_sd (sp_fc (rN R)) (eY s.1) (eZ s.1))) (nI s.2), cDu (nI (rN R)) (nI (sp_fc (rN R))) (nI (sp_n f)) uf uy, iC 4 us, iC 7 uc, iC 7 uo, cDv (nI (rN R)) (nI (sp_fc (rN R))) vz vf vy, iC 4 vs, iC 7 vc, iC 7 vo] 0 0 := by
              intro hno
              rw [if_neg hno] at hp
              refine x_Ex_tryRule_159 K hr ?_
              rw [nI_1]
              exact ih (i + 1) s _ (by omega) hw' h3 hp
            have at128 : (i = 0 ∨ (sp_cs f).getD (i - 1) 0 ≠ (sp_cs f).getD i 0) → AW X 128 [some (aR 17), some (aI (nI node)), some (aI (nI r)), some (aI (nI v)), some (aI (nI i)), some (aI (nI ((sp_cs f).getD i 0))), none] [aI 0] [oC 0 [aR 1, aR 9, aR 17], cMo (nI (rN R)) (nI (rS R)) (nI (rK R)) (nI (rU R)) bp, iC 40 ms, iC 40 me, iC 40 mt, iC 40 mn, iC 160 mk, iC 160 mw, iC 40 mg, cSt (nI (eZ s.1)), jC room fo, iC room le, iC room og, iC room ru, iC room sp, iC room sy, iC (2 ^ e) sa, cEx (rc_en (eN s.1)) (nI (eG s.1)) (nI (eT s.1)) (nI (eO s.1)) (nI (eK s.1)) (nI (rc_sd (sp_fc (rN R)) (eY s.1) (eZ s.1))) (nI s.2), cDu (nI (rN R)) (nI (sp_fc (rN R))) (nI (sp_n f)) uf uy, iC 4 us, iC 7 uc, iC 7 uo, cDv (nI (rN R)) (nI (sp_fc (rN R))) vz vf vy, iC 4 vs, iC 7 vc, iC 7 vo] 0 0 := by
              intro hfirst
              refine x_Ex_tryRule_128 K hr c_Ex_makeStep (by decide) ⟨fun z => absurd rfl z, fun _ => ⟨fun z2 => ?_, fun z2 => ⟨fun z3 => ?_, fun z3 => ?_⟩⟩⟩
              · rw [bt_s4 _ hci.1] at z2
                exact skip (fun ⟨_, h2, _⟩ => z2 (by congr 1; omega))
              · have e3 : nI ((sp_cs f).getD i 0) &&& (3 : Int32) = nI ((sp_cs f).getD i 0 % 4) := nI_and _ 2 (by omega) (by decide)
                rw [e3] at z3
                exact skip (fun ⟨_, _, h3⟩ => z3 (by rw [h3]))
              · rw [bt_s4 _ hci.1] at z2
                have e3 : nI ((sp_cs f).getD i 0) &&& (3 : Int32) = nI ((sp_cs f).getD i 0 % 4) := nI_and _ 2 (by omega) (by decide)
                rw [e3] at z3
                have h16 : (sp_cs f).getD i 0 / 16 = v := (nI_eq (by omega) (by omega)).mp z2
                have hnd : (sp_cs f).getD i 0 % 4 = node := (nI_eq (by omega) (by omega)).mp z3
                rw [if_pos ⟨hfirst, by omega, hnd⟩] at hp
                have ei : nI i = nI (i + 1) - 1 := (nI_pred i).symm
                have hok : sp_ok R f node r (i + 1) := ⟨hn, hrU, hk, Or.inr ⟨by omega, by omega, hv⟩, by rw [if_neg (by omega)]; have := hc.2; rw [if_neg hv] at this; exact this⟩
                refine ⟨R, room, e, f, node, r, i + 1, s.2, s.1, nI (sp_n f), us, uc, by rw [← ei], rfl, hw', hu, hok, h3, fun w' hw9 => ?_⟩
                obtain ⟨g1, g2, g3⟩ := mk_g R room f node r (i + 1) s
                have hw9' := hw9
                obtain ⟨bp, uf, vf, uy, vz, vy, ms, me, mt, mn, mk, mw, mg, le, og, ru, sp, sy, sa, uo, vs, vc, vo, fo, rfl, -⟩ := hw9
                refine x_Ex_tryRule_159 K hr ?_
                rw [nI_1]
                exact ih (i + 1) (sp_mk R room f node r (i + 1) s) _ (by omega) hw9' (by rw [g1]; omega) hp
            rw [nI_clamp (n := i) (by omega), huci]
            refine ⟨fun z2 => ?_, fun z2 => ?_⟩
            · have ei : i = 0 := by
                rcases Nat.eq_zero_or_pos i with h | h
                · exact h
                · exact absurd z2 (nI_nle h (by omega))
              refine x_Ex_tryRule_127 K hr ?_
              exact at128 (Or.inl ei)
            · obtain ⟨j, rfl⟩ : ∃ j, i = j + 1 := by
                rcases Nat.eq_zero_or_pos i with h | h
                · exact absurd (by rw [h]; exact Int32.le_refl _) z2
                · exact ⟨i - 1, by omega⟩
              obtain ⟨hmj, hgj⟩ := sp_getD_mem (l := sp_cs f) (i := j) (by omega)
              have hcj := hk.2.1 _ hmj
              have hucj : uc j = nI ((sp_cs f).getD j 0) := by
                have := hu3 j _ hgj
                rwa [Nat.zero_add] at this
              have ep : nI (j + 1) - 1 = nI j := nI_pred j
              rw [ep, nI_clamp (n := j) (by omega), hucj]
              refine ⟨vp_in_nI (by omega) (by decide), fun z3 => ?_, fun z3 => ?_⟩
              · refine x_Ex_tryRule_127 K hr ?_
                exact at128 (Or.inr (fun h => z3 (by rw [Nat.add_sub_cancel] at h; rw [h])))
              · refine x_Ex_tryRule_128 K hr c_Ex_makeStep (by decide) ⟨fun _ => ?_, fun z => absurd z (by decide)⟩
                have heq : (sp_cs f).getD j 0 = (sp_cs f).getD (j + 1) 0 := (nI_eq (by omega) (by omega)).mp z3
                exact skip (fun ⟨h1, _, _⟩ => by
                  rcases h1 with h1 | h1
                  · omega
                  · rw [Nat.add_sub_cancel] at h1; exact h1 heq)
      exact key (sp_n f) 0 (E, here) _ (by omega) hw0 hg hp
    · have hv : rV R r = 0 := (nI_m1 (by omega)).mp z
      have etr : sp_tr R room f node r (E, here) = sp_mk R room f node r 0 (E, here) := by
        unfold sp_tr
        rw [if_pos hc, if_pos hv]
      rw [etr] at hp
      have hok : sp_ok R f node r 0 := ⟨hn, hrU, hk, Or.inl ⟨rfl, hv⟩, by rw [if_pos rfl]; have := hc.2; rw [if_pos hv] at this; exact this⟩
      refine ⟨R, room, e, f, node, r, 0, here, E, nI (sp_n f), us, uc, rfl, rfl, hw0, hu, hok, hg, fun w' hw9 => ?_⟩
      have h9 := hp w' hw9
      obtain ⟨bp, uf, vf, uy, vz, vy, ms, me, mt, mn, mk, mw, mg, le, og, ru, sp, sy, sa, uo, vs, vc, vo, fo, rfl, -⟩ := hw9
      exact x_Ex_tryRule_66 K hr h9
  · have etr : sp_tr R room f node r (E, here) = (E, here) := by
      unfold sp_tr
      rw [if_neg hc]
    rw [etr] at hp
    have h9 := hp _ hw0
    refine ⟨fun _ => h9, fun z => ⟨hinr, fun z2 => absurd ⟨hcmp.mp z, hgr.mp z2⟩ hc, fun _ => h9⟩⟩

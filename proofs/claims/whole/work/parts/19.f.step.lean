/-! ===== THE REFERENCE: step, allSteps, goThrough ===== -/
theorem key_sort {N : Nat} {st g : Nat → Nat} {cs : List Nat} : sp_key N st (mt_sort cs) g = sp_key N st cs g := by
  unfold sp_key
  have e : mt_sort ((mt_sort cs).map (sp_ren g)) = mt_sort (cs.map (sp_ren g)) := mt_sort_perm ((mt_sort_p cs).map _)
  have e2 : sp_dg N st g (mt_sort cs) = sp_dg N st g cs := by
    funext i
    unfold sp_dg
    rw [e]
  rw [e2]
theorem can_sort {N : Nat} {st : Nat → Nat} {cs : List Nat} : sp_can N st (mt_sort cs) = sp_can N st cs := by
  unfold sp_can
  congr 1
  exact List.map_congr_left (fun q _ => key_sort)
theorem sym_sort {N : Nat} {st : Nat → Nat} {cs : List Nat} : sp_sym N st (mt_sort cs) = sp_sym N st cs := by
  unfold sp_sym
  congr 1
  exact List.map_congr_left (fun q _ => key_sort)
theorem tk_sort {R : sp_R} {E : sp_E} {st : Nat → Nat} {cs : List Nat} {par rul : Nat} : sp_tk R E st (mt_sort cs) par rul = sp_tk R E st cs par rul := by
  unfold sp_tk
  rw [can_sort, sym_sort]
theorem vc_sort {N : Nat} {cs : List Nat} (h : sp_vc N cs) : sp_vc N (mt_sort cs) := fun c hc => h c ((mt_sort_p cs).mem_iff.mp hc)
def sp_RM_step : am_S := fun av w post => ∃ (R : sp_R) (room f node r recv : Nat) (E : sp_E) (th sm at9 : Int32) (o : Nat → Nat) (nx ls : Nat → Int32), av = [aR 0, aI (nI (eG E)), aI (nI r)] ∧ w.length = 19 ∧ (rq R room E th sm at9 o nx ls w) ∧ (sp_ok R f node r recv) ∧ (eG E < eZ E) ∧ (eN E = 0) ∧ (nxs nx (sp_ns R f node r) (sp_nc R f node r recv)) ∧ (∀ w' : List am_C, rm R room (sp_mk R room f node r recv (E, 0)).1 th w' → post (some (aI (if eN (sp_mk R room f node r recv (E, 0)).1 = 0 then 1 else 0))) w')
set_option maxRecDepth 20000 in
set_option maxHeartbeats 2000000 in
theorem c_RM_step : Con y_RM_step b_RM_step 3 (some .boolean) 3 0 0 false sp_RM_step := by
  refine Con.of (by decide) (fun av w post h => by obtain ⟨R, room, f, node, r, recv, E, th, sm, at9, o, nx, ls, rfl, -⟩ := h; exact Nat.le_of_ble_eq_true rfl) ?_
  intro X K hnm av w post h hr _
  obtain ⟨R, room, f, node, r, recv, E, th, sm, at9, o, nx, ls, rfl, hlen, hw, hok, hg, hN0, hnx, hp⟩ := h
  obtain ⟨c0, c1, c2, c3, c4, c5, c6, c7, c8, c9, c10, c11, c12, c13, c14, c15, c16, c17, c18, rfl⟩ := len19 hlen
  obtain ⟨bw, xf, xe, xt, xn, xk, xw, xb, nm, ro, od, le, pa, br, so, al, ot, hwe, hR, hE, hro, hA, hN, hS, hO, hbw⟩ := hw
  rw [hwe]
  clear hwe
  have hN1 := hR.1.1
  have hN4 := hR.1.2.1
  have hzr := hE.1.1
  have hrU := hok.2.1
  have hU40 := hR.1.2.2.2.2
  have hvc := sp_nc_vc hR hok
  have hlen := (sp_nc_len hR hok).1
  have hns : ∀ i, i < rN R → sp_ns R f node r i < 8 := fun i _ => sp_ns_lt hR hrU i
  have hkey := sp_new_vk hR hok
  have hev := ev_mk (s := (E, 0)) hR hE hg hok
  obtain ⟨g, hgd⟩ : ∃ g, g = sp_can (rN R) (sp_ns R f node r) (sp_nc R f node r recv) := ⟨_, rfl⟩
  obtain ⟨n1, n2, n3⟩ := hnx
  refine x_RM_step_0 K hr c_RM_form (by decide) ?_
  rw [nI_1]
  refine ⟨rN R, _, _, _, _, _, _, _, _, _, _, _, _, _, _, nm, nx, ot, ls, sp_ns R f node r, mt_sort (sp_nc R f node r recv), rfl, rfl, rfl, rfl, rfl, rfl, rfl, hN1, hN4, hN, fun i hi => ⟨n1 i (by omega), hns i hi⟩, by rw [mt_sort_len]; exact n2, n3, by rw [mt_sort_len]; exact hlen, vc_sort hvc, fun ot' ls' hls => ?_⟩
  rw [sym_sort]
  have hls' := hls
  rw [can_sort, ← hgd] at hls
  rw [← hgd] at hkey
  refine x_RM_step_14 K hr c_RM_isThere (by decide) ?_
  refine ⟨rN R, eZ E, g, _, _, _, _, _, _, _, _, _, _, _, _, _, _, _, ro, od, ls', eF E, o, rfl, rfl, rfl, rfl, rfl, rfl, by omega, hO.1, fun k hk => ⟨(hS k hk).1, (hE.2.1 k hk).1⟩, hO.2.1, hls, hkey, fun a ha h1 h2 => ?_⟩
  by_cases hthere : a < eZ E ∧ eF E (o a) = g
  · rw [if_pos hthere]
    have his : sp_is E (sp_can (rN R) (sp_ns R f node r) (sp_nc R f node r recv)) = true := sp_is_iff.mpr ⟨o a, (hO.1 a hthere.1).2, by rw [← hgd]; exact hthere.2⟩
    rw [sp_mk_old his] at hp hev
    refine x_RM_step_18 K hr c_RM_come (by decide) ⟨fun z => absurd z (by decide), fun _ => ?_⟩
    rw [nI_1]
    have h9 := hp _ ⟨nI (sp_sym (rN R) (sp_ns R f node r) (sp_nc R f node r recv)), nI a, o, nx, ls', bw, xf, xe, xt, xn, xk, xw, xb, nm, ro, od, le, pa, br, so, al, ot', rfl, hR, hev.1, hro, hA, hN, hS, hO, hbw⟩
    rw [if_pos hN0] at h9
    exact h9
  · rw [if_neg hthere]
    have his : sp_is E (sp_can (rN R) (sp_ns R f node r) (sp_nc R f node r recv)) = false := by
      cases h : sp_is E (sp_can (rN R) (sp_ns R f node r) (sp_nc R f node r recv)) with
      | false => rfl
      | true =>
        exfalso
        obtain ⟨k, hk, hkg⟩ := sp_is_iff.mp h
        rw [← hgd] at hkg
        obtain ⟨i, hi, hoi⟩ := hO.2.2 k hk
        have ei : sp_rk (eF E (o i)) = sp_rk g := by rw [hoi, hkg]
        rcases Nat.lt_or_ge i a with q | q
        · have := h1 i q; omega
        · by_cases q2 : i = a
          · exact hthere ⟨by omega, by rw [← q2, hoi, hkg]⟩
          · have q3 := hO.2.1 a i (by omega) hi
            have q4 := h2 a (Nat.le_refl _) (by omega)
            omega
    by_cases hfull : eZ E = room
    · rw [sp_mk_full his hfull] at hp hev
      refine x_RM_step_18 K hr c_RM_come (by decide) ⟨fun _ => ⟨fun z => absurd (by rw [hfull]) z, fun _ => ?_⟩, fun z => absurd rfl z⟩
      exact hp _ ⟨nI (sp_sym (rN R) (sp_ns R f node r) (sp_nc R f node r recv)), nI a, o, nx, ls', bw, xf, xe, xt, xn, xk, xw, xb, nm, ro, od, le, pa, br, so, al, ot', rfl, hR, hev.1, hro, hA, hN, hS, hO, fun h => absurd (show 1 = 2 from h) (by omega)⟩
    · rw [sp_mk_new his hfull] at hp hev
      refine x_RM_step_18 K hr c_RM_come (by decide) ⟨fun _ => ⟨fun _ => ?_, fun z => absurd ((nI_eq (by omega) (by omega)).mp z) hfull⟩, fun z => absurd rfl z⟩
      have hev1 : ev R room (eZ E, eG E, eT E + 1, eO E, eK E, eN E, eF E, eL E, eP E, eR E, eS E, eY E) := hE
      refine ⟨R, room, eG E + 1, r + 1, a, (eZ E, eG E, eT E + 1, eO E, eK E, eN E, eF E, eL E, eP E, eR E, eS E, eY E), th, o, nx, ls', sp_ns R f node r, mt_sort (sp_nc R f node r recv), by rw [nI_pred, nI_pred], rfl, ⟨bw, xf, xe, xt, xn, xk, xw, xb, nm, ro, od, le, pa, br, so, al, ot', by rw [sym_sort], hR, hev1, hro, hA, hN, hS, hO, hbw⟩, hls', hns, vc_sort hvc, by rw [mt_sort_len]; exact hlen, by show eZ E < room; omega, Or.inr ⟨rfl, hg⟩, by omega, ha, fun i hi => ?_, fun i hi1 hi2 => ?_, ?_, hN0, fun w9 hw9 => ?_⟩
      · show sp_rk (eF E (o i)) < sp_rk (sp_can (rN R) (sp_ns R f node r) (mt_sort (sp_nc R f node r recv)))
        rw [can_sort, ← hgd]; exact h1 i hi
      · show sp_rk (sp_can (rN R) (sp_ns R f node r) (mt_sort (sp_nc R f node r recv))) < sp_rk (eF E (o i))
        rw [can_sort, ← hgd]
        have hi2' : i < eZ E := hi2
        have q := h2 i hi1 hi2'
        rcases Nat.lt_or_ge (sp_rk g) (sp_rk (eF E (o i))) with q2 | q2
        · exact q2
        · exfalso
          have hoi := (hO.1 i hi2').2
          have e := rk_inj hkey (hE.2.1 _ hoi).1 (show sp_rk g = sp_rk (eF E (o i)) by omega)
          have : sp_is E (sp_can (rN R) (sp_ns R f node r) (sp_nc R f node r recv)) = true := sp_is_iff.mpr ⟨o i, hoi, by rw [← hgd]; exact e.symm⟩
          rw [his] at this
          cases this
      · rw [can_sort]; exact his
      · rw [tk_sort] at hw9
        have h9 := hp _ hw9
        obtain ⟨sm, at9, o, nx, ls, bw, xf, xe, xt, xn, xk, xw, xb, nm, ro, od, le, pa, br, so, al, ot, rfl, -⟩ := hw9
        refine x_RM_step_57 K hr ⟨fun z => ?_, fun z => ?_⟩
        · rw [if_neg (fun q => z ((rc_en0 _).mpr q))] at h9; exact h9
        · rw [if_pos ((rc_en0 _).mp z)] at h9; exact h9
theorem mk_add (R : sp_R) (room f node r recv : Nat) (E : sp_E) (h : Nat) : sp_mk R room f node r recv (E, h) = ((sp_mk R room f node r recv (E, 0)).1, h + (sp_mk R room f node r recv (E, 0)).2) := by
  obtain ⟨z, g, t, o, k, n, F, L, P, U, S, Y⟩ := E
  have e : ∀ h : Nat, sp_mk R room f node r recv ((z, g, t, o, k, n, F, L, P, U, S, Y), h) = if sp_is (z, g, t, o, k, n, F, L, P, U, S, Y) (sp_can (rN R) (sp_ns R f node r) (sp_nc R f node r recv)) = true then ((z, g, t + 1, o + 1, k, n, F, L, P, U, S, Y), h + 1) else if z = room then ((z, g, t + 1, o, k, 1, F, L, P, U, S, Y), h + 1) else (sp_tk R (z, g, t + 1, o, k, n, F, L, P, U, S, Y) (sp_ns R f node r) (sp_nc R f node r recv) (g + 1) (r + 1), h + 1) := fun _ => rfl
  rw [e, e]
  by_cases h1 : sp_is (z, g, t, o, k, n, F, L, P, U, S, Y) (sp_can (rN R) (sp_ns R f node r) (sp_nc R f node r recv)) = true
  · rw [if_pos h1, if_pos h1]
  · rw [if_neg h1, if_neg h1]
    by_cases h2 : z = room
    · rw [if_pos h2, if_pos h2]
    · rw [if_neg h2, if_neg h2]
theorem tc_add (R : sp_R) (room f node r : Nat) : ∀ (t i : Nat) (E : sp_E) (h : Nat), sp_tc R room f node r t i (E, h) = ((sp_tc R room f node r t i (E, 0)).1, h + (sp_tc R room f node r t i (E, 0)).2) := by
  intro t
  induction t with
  | zero => intro i E h; rfl
  | succ t ih =>
    intro i E h
    have e : ∀ h : Nat, sp_tc R room f node r (t + 1) i (E, h) = if eN E = 0 then sp_tc R room f node r t (i + 1) (if (i = 0 ∨ (sp_cs f).getD (i - 1) 0 ≠ (sp_cs f).getD i 0) ∧ (sp_cs f).getD i 0 / 16 + 1 = rV R r ∧ (sp_cs f).getD i 0 % 4 = node then sp_mk R room f node r (i + 1) (E, h) else (E, h)) else (E, h) := fun _ => rfl
    rw [e, e]
    by_cases h1 : eN E = 0
    · rw [if_pos h1, if_pos h1]
      by_cases h2 : (i = 0 ∨ (sp_cs f).getD (i - 1) 0 ≠ (sp_cs f).getD i 0) ∧ (sp_cs f).getD i 0 / 16 + 1 = rV R r ∧ (sp_cs f).getD i 0 % 4 = node
      · rw [if_pos h2, if_pos h2, mk_add R room f node r (i + 1) E h]
        obtain ⟨E', n'⟩ := sp_mk R room f node r (i + 1) (E, 0)
        show sp_tc R room f node r t (i + 1) (E', h + n') = ((sp_tc R room f node r t (i + 1) (E', n')).1, h + (sp_tc R room f node r t (i + 1) (E', n')).2)
        rw [ih (i + 1) E' (h + n'), ih (i + 1) E' n']
        show (_, _) = (_, _)
        rw [Nat.add_assoc]
      · rw [if_neg h2, if_neg h2]
        exact ih (i + 1) E h
    · rw [if_neg h1, if_neg h1]; rfl
theorem tr_add (R : sp_R) (room f node r : Nat) (E : sp_E) (h : Nat) : sp_tr R room f node r (E, h) = ((sp_tr R room f node r (E, 0)).1, h + (sp_tr R room f node r (E, 0)).2) := by
  unfold sp_tr
  by_cases h1 : sp_st f node = rF R r ∧ sp_n f + sp_gw R r (rC R r) ≤ (if rV R r = 0 then 7 else 8)
  · rw [if_pos h1, if_pos h1]
    by_cases h2 : rV R r = 0
    · rw [if_pos h2, if_pos h2]; exact mk_add R room f node r 0 E h
    · rw [if_neg h2, if_neg h2]; exact tc_add R room f node r (sp_n f) 0 E h
  · rw [if_neg h1, if_neg h1]; rfl
/-- what stays while a whole is gone through -/
theorem mk_keep {R : sp_R} {room f node r recv : Nat} {E : sp_E} (hR : rv R) (hE : ev R room E) (hg : eG E < eZ E) (hok : sp_ok R f node r recv) (hf : f = eF E (eG E)) : eG (sp_mk R room f node r recv (E, 0)).1 = eG E ∧ eG (sp_mk R room f node r recv (E, 0)).1 < eZ (sp_mk R room f node r recv (E, 0)).1 ∧ f = eF (sp_mk R room f node r recv (E, 0)).1 (eG (sp_mk R room f node r recv (E, 0)).1) := by
  obtain ⟨h1, h2, h3, h4⟩ := ev_mk (s := (E, 0)) hR hE hg hok
  have h2' : eG (sp_mk R room f node r recv (E, 0)).1 = eG E := h2
  have h3' : eZ E ≤ eZ (sp_mk R room f node r recv (E, 0)).1 := h3
  refine ⟨h2', by omega, ?_⟩
  rw [h2', h4 (eG E) hg]
  exact hf
def sp_RM_allSteps : am_S := fun av w post => ∃ (R : sp_R) (room f node r : Nat) (E : sp_E) (th : Int32), av = [aR 0, aI (nI (eG E)), aI (nI node), aI (nI r)] ∧ w.length = 19 ∧ (rm R room E th w) ∧ (eG E < eZ E) ∧ (eN E = 0) ∧ (node < rN R) ∧ (r < rU R) ∧ (f = eF E (eG E)) ∧ (sp_st f node = rF R r) ∧ (∀ w' : List am_C, rm R room (sp_tr R room f node r (E, 0)).1 th w' → post (some (aI (if eN (sp_tr R room f node r (E, 0)).1 = 0 then nI (sp_tr R room f node r (E, 0)).2 else (-1)))) w')
set_option maxRecDepth 20000 in
set_option maxHeartbeats 2000000 in
theorem c_RM_allSteps : Con y_RM_allSteps b_RM_allSteps 8 (some .int) 4 0 0 false sp_RM_allSteps := by
  refine Con.of (by decide) (fun av w post h => by obtain ⟨R, room, f, node, r, E, th, rfl, -⟩ := h; exact Nat.le_of_ble_eq_true rfl) ?_
  intro X K hnm av w post h hr _
  obtain ⟨R, room, f, node, r, E, th, rfl, hlen, hw, hg, hN0, hn, hrU, hf, hst, hp⟩ := h
  obtain ⟨c0, c1, c2, c3, c4, c5, c6, c7, c8, c9, c10, c11, c12, c13, c14, c15, c16, c17, c18, rfl⟩ := len19 hlen
  have hw0 := hw
  obtain ⟨hR, hE, hro, -⟩ := rm_vs hw
  obtain ⟨sm, at9, o, nx, ls, bw, xf, xe, xt, xn, xk, xw, xb, nm, ro, od, le, pa, br, so, al, ot, hwe, -, -, -, hA, -⟩ := hw
  rw [hwe] at hw0 ⊢
  clear hwe
  have hzr := hE.1.1
  have hN4 := hR.1.2.1
  have hU40 := hR.1.2.2.2.2
  have hvk : sp_vk (rN R) f := by rw [hf]; exact (hE.2.1 _ hg).1
  have hn7 := sp_n_le f
  have hcl := sp_cs_len f
  obtain ⟨a1, a2, a3, a4, a5⟩ := hA.1 r hrU
  obtain ⟨b1, b2, b3, b4, b5⟩ := hR.2.1 r hrU
  have hK6 := hR.1.2.2.2.1
  have hin40 : vp_in (nI r) 40 := vp_in_nI (by omega) (by decide)
  refine x_RM_allSteps_0 K hr c_RM_make (by decide) ⟨hin40, ?_⟩
  rw [nI_clamp (by omega), a2]
  refine ⟨fun z => ?_, fun z => ?_⟩
  · have hv : rV R r ≠ 0 := fun h => z ((nI_m1 (by omega)).mpr h)
    obtain ⟨v, hv1⟩ : ∃ v, rV R r = v + 1 := ⟨rV R r - 1, by omega⟩
    have key : ∀ (t i h : Nat) (E1 : sp_E) (w : List am_C), i + t = sp_n f → h ≤ i → rm R room E1 th w → eG E1 = eG E → eG E1 < eZ E1 → eN E1 = 0 → f = eF E1 (eG E1) →
        (∀ w' : List am_C, rm R room (if sp_n f + sp_gw R r (rC R r) ≤ 8 then sp_tc R room f node r t i (E1, h) else (E1, h)).1 th w' → post (some (aI (if eN (if sp_n f + sp_gw R r (rC R r) ≤ 8 then sp_tc R room f node r t i (E1, h) else (E1, h)).1 = 0 then nI (if sp_n f + sp_gw R r (rC R r) ≤ 8 then sp_tc R room f node r t i (E1, h) else (E1, h)).2 else (-1)))) w') →
        AW X 44 [some (aR 0), some (aI (nI (eG E))), some (aI (nI node)), some (aI (nI r)), some (aI (nI h)), some (aI (nI i)), none, none] [] w 0 0 := by
      intro t
      induction t with
      | zero =>
        intro i h E1 w hi hh hw he1 he2 he3 he4 hp
        have h9 := hp w (by
          have e : (if sp_n f + sp_gw R r (rC R r) ≤ 8 then sp_tc R room f node r 0 i (E1, h) else (E1, h)) = (E1, h) := by split <;> rfl
          rw [e]; exact hw)
        have e : (if sp_n f + sp_gw R r (rC R r) ≤ 8 then sp_tc R room f node r 0 i (E1, h) else (E1, h)) = (E1, h) := by split <;> rfl
        rw [e, if_pos he3] at h9
        obtain ⟨-, hE1, -, -⟩ := rm_vs hw
        have hz1 := hE1.1.1
        obtain ⟨sm, at9, o, nx, ls, bw, xf, xe, xt, xn, xk, xw, xb, nm, ro, od, le, pa, br, so, al, ot, rfl, -, -, -, hA, hN, hS, hO, hbw⟩ := hw
        have hrow := (hS _ he2).1
        rw [← he4, he1] at hrow
        refine x_RM_allSteps_44 K hr ?_
        have x124 : ((12 : Int32) * nI (eG E)) + (4 : Int32) = nI (12 * eG E + 4) := x12 (eG E) 4
        rw [x124, nI_clamp (n := 12 * eG E + 4) (by omega), hrow.2.1]
        exact ⟨vp_in_nI (by omega) (by decide), fun _ => h9, fun z => absurd (nI_le (by omega) (by omega)) z⟩
      | succ t ih =>
        intro i h E1 w hi hh hw he1 he2 he3 he4 hp
        have hw0 := hw
        obtain ⟨-, hE1, -, -⟩ := rm_vs hw
        have hz1 := hE1.1.1
        obtain ⟨sm, at9, o, nx, ls, bw, xf, xe, xt, xn, xk, xw, xb, nm, ro, od, le, pa, br, so, al, ot, rfl, hR9, -, hro9, hA, hN, hS, hO, hbw⟩ := hw
        have hrow := (hS _ he2).1
        rw [← he4, he1] at hrow
        obtain ⟨a1, a2, a3, a4, a5⟩ := hA.1 r hrU
        have hil : i < (sp_cs f).length := by omega
        have hgi : (sp_cs f)[i]? = some ((sp_cs f).getD i 0) := (sp_getD_mem hil).2
        have hci := hvk.2.1 _ (sp_getD_mem hil).1
        have ei : ro (12 * eG E + 5 + i) = nI ((sp_cs f).getD i 0) := hrow.2.2 i _ hgi
        have x124 : ((12 : Int32) * nI (eG E)) + (4 : Int32) = nI (12 * eG E + 4) := x12 (eG E) 4
        have x125 : ((((12 : Int32) * nI (eG E)) + (5 : Int32)) + nI i) = nI (12 * eG E + 5 + i) := by
          have h' : ((12 : Int32) * nI (eG E)) + (5 : Int32) = nI (12 * eG E + 5) := x12 (eG E) 5
          rw [h', nI_add]
        have x124i : ((((12 : Int32) * nI (eG E)) + (4 : Int32)) + nI i) = nI (12 * eG E + 4 + i) := by rw [x124, nI_add]
        have hstep : sp_tc R room f node r (t + 1) i (E1, h) = sp_tc R room f node r t (i + 1) (if (i = 0 ∨ (sp_cs f).getD (i - 1) 0 ≠ (sp_cs f).getD i 0) ∧ (sp_cs f).getD i 0 / 16 + 1 = rV R r ∧ (sp_cs f).getD i 0 % 4 = node then sp_mk R room f node r (i + 1) (E1, h) else (E1, h)) := by
          show (if eN E1 = 0 then _ else _) = _
          rw [if_pos he3]
        rw [hstep] at hp
        have skip : ¬ ((i = 0 ∨ (sp_cs f).getD (i - 1) 0 ≠ (sp_cs f).getD i 0) ∧ (sp_cs f).getD i 0 / 16 + 1 = rV R r ∧ (sp_cs f).getD i 0 % 4 = node) → AW X 44 [some (aR 0), some (aI (nI (eG E))), some (aI (nI node)), some (aI (nI r)), some (aI (nI h)), some (aI (nI (i + 1))), none, none] [] [cRM th (nI (rN R)) (nI room) (nI (rS R)) (nI (rK R)) (nI (rU R)) (nI (sp_fc (rN R))) (nI (eZ E1)) (nI (eG E1)) (nI (eT E1)) (nI (eO E1)) (nI (eK E1)) (rc_en (eN E1)) bw sm at9, iC 40 xf, iC 40 xe, iC 40 xt, iC 40 xn, iC 160 xk, iC 160 xw, zC 64 xb, iC 96 nm, iC 98304 ro, iC 8192 od, iC 8192 le, iC 8192 pa, iC 8192 br, iC 8192 so, iC 8192 al, iC 12 nx, iC 12 ot, iC 12 ls] 0 0 := by
          intro hno
          rw [if_neg hno] at hp
          exact ih (i + 1) h E1 _ (by omega) (by omega) hw0 he1 he2 he3 he4 hp
        have first : (i = 0 ∨ (sp_cs f).getD (i - 1) 0 ≠ (sp_cs f).getD i 0) → AW X 105 [some (aR 0), some (aI (nI (eG E))), some (aI (nI node)), some (aI (nI r)), some (aI (nI h)), some (aI (nI i)), some (aI (nI ((sp_cs f).getD i 0))), none] [aI 0] [cRM th (nI (rN R)) (nI room) (nI (rS R)) (nI (rK R)) (nI (rU R)) (nI (sp_fc (rN R))) (nI (eZ E1)) (nI (eG E1)) (nI (eT E1)) (nI (eO E1)) (nI (eK E1)) (rc_en (eN E1)) bw sm at9, iC 40 xf, iC 40 xe, iC 40 xt, iC 40 xn, iC 160 xk, iC 160 xw, zC 64 xb, iC 96 nm, iC 98304 ro, iC 8192 od, iC 8192 le, iC 8192 pa, iC 8192 br, iC 8192 so, iC 8192 al, iC 12 nx, iC 12 ot, iC 12 ls] 0 0 := by
          intro hfirst
          refine x_RM_allSteps_105 K hr c_RM_make (by decide) ⟨fun z => absurd rfl z, fun _ => ⟨hin40, ?_⟩⟩
          rw [nI_clamp (n := r) (by omega), a2, xd16 hci.1, xr4 hci.1, nI_1, hv1, nI_pred]
          refine ⟨fun z => skip (fun ⟨_, q, _⟩ => z (by congr 1; omega)), fun z => ⟨fun z2 => skip (fun ⟨_, _, q⟩ => z2 (by rw [q])), fun z2 => ?_⟩⟩
          have h16 : (sp_cs f).getD i 0 / 16 = v := (nI_eq (by omega) (by omega)).mp z
          have hnd : (sp_cs f).getD i 0 % 4 = node := (nI_eq (by omega) (by omega)).mp z2
          have hcond : (i = 0 ∨ (sp_cs f).getD (i - 1) 0 ≠ (sp_cs f).getD i 0) ∧ (sp_cs f).getD i 0 / 16 + 1 = rV R r ∧ (sp_cs f).getD i 0 % 4 = node := ⟨hfirst, by omega, hnd⟩
          rw [if_pos hcond] at hp
          have hfst : ∀ j, j < i → (sp_cs f).getD j 0 ≠ (sp_cs f).getD i 0 := by
            intro j hj e
            rcases hfirst with q | q
            · omega
            · have hj1 := (sp_getD_mem (l := sp_cs f) (i := j) (by omega)).2
              have hi1 := (sp_getD_mem (l := sp_cs f) (i := i - 1) (by omega)).2
              have q1 := mt_sd_le hvk.2.2.1 (show j ≤ i - 1 by omega) hj1 hi1
              have q2 := mt_sd_le hvk.2.2.1 (show i - 1 ≤ i by omega) hi1 hgi
              omega
          refine ⟨R, room, eG E, node, r, i + 1, E1, th, sm, at9, nI ((sp_cs f).getD i 0), o, nx, ls, rfl, rfl, ⟨bw, xf, xe, xt, xn, xk, xw, xb, nm, ro, od, le, pa, br, so, al, ot, rfl, hR9, hE1, hro9, hA, hN, hS, hO, hbw⟩, by omega, hn, hrU, ?_, ?_, fun hcap => ?_, fun hcap nx' w' hnx hw' => ?_⟩
          · rw [if_neg (by omega), Nat.add_sub_cancel, ← he1, ← he4]
          · rw [← he1, ← he4]
            exact Or.inr ⟨by omega, by omega, hv, fun j hj => by rw [Nat.add_sub_cancel]; exact hfst j (by omega)⟩
          · rw [← he1, ← he4, if_neg (by omega)] at hcap
            refine x_RM_allSteps_143 K hr c_RM_step (by decide) ⟨fun z => absurd rfl z, fun _ => ?_⟩
            rw [nI_1]
            refine ih (i + 1) h E1 _ (by omega) (by omega) hw0 he1 he2 he3 he4 ?_
            rw [if_neg hcap] at hp ⊢
            exact hp
          · rw [← he1, ← he4, if_neg (by omega)] at hcap
            rw [← he1, ← he4] at hnx
            have hok : sp_ok R f node r (i + 1) := ⟨hn, hrU, hvk, Or.inr ⟨by omega, by omega, hv⟩, by rw [if_neg (by omega)]; exact hcap⟩
            have hkeep := mk_keep hR9 hE1 he2 hok he4
            have hw'0 := hw'
            obtain ⟨bw, xf, xe, xt, xn, xk, xw, xb, nm, ro, od, le, pa, br, so, al, ot, rfl, -⟩ := hw'
            refine x_RM_allSteps_143 K hr c_RM_step (by decide) ⟨fun _ => ?_, fun z => absurd z (by decide)⟩
            refine ⟨R, room, f, node, r, i + 1, E1, th, sm, at9, o, nx', ls, by rw [he1], rfl, hw'0, hok, he2, he3, hnx, fun w9 hw9 => ?_⟩
            rw [if_pos hcap, mk_add R room f node r (i + 1) E1 h] at hp
            have hm2 : (sp_mk R room f node r (i + 1) (E1, 0)).2 = 1 := (mk_g R room f node r (i + 1) (E1, 0)).2.2
            rw [hm2] at hp
            have hw90 := hw9
            obtain ⟨sm, at9, o, nx, ls, bw, xf, xe, xt, xn, xk, xw, xb, nm, ro, od, le, pa, br, so, al, ot, rfl, -⟩ := hw9
            by_cases hen : eN (sp_mk R room f node r (i + 1) (E1, 0)).1 = 0
            · rw [if_pos hen]
              refine x_RM_allSteps_155 K hr ⟨fun _ => ?_, fun z => absurd z (by decide)⟩
              rw [nI_1, nI_1]
              refine ih (i + 1) (h + 1) _ _ (by omega) (by omega) hw90 (by rw [hkeep.1]; exact he1) hkeep.2.1 hen hkeep.2.2 ?_
              rw [if_pos hcap]
              exact hp
            · rw [if_neg hen]
              refine x_RM_allSteps_155 K hr ⟨fun z => absurd rfl z, fun _ => ?_⟩
              have etc : sp_tc R room f node r t (i + 1) ((sp_mk R room f node r (i + 1) (E1, 0)).1, h + 1) = ((sp_mk R room f node r (i + 1) (E1, 0)).1, h + 1) := by
                cases t with
                | zero => rfl
                | succ t =>
                  show (if eN (sp_mk R room f node r (i + 1) (E1, 0)).1 = 0 then _ else _) = _
                  rw [if_neg hen]
              rw [etc] at hp
              have h9 := hp _ hw90
              rw [if_neg hen] at h9
              exact h9
        refine x_RM_allSteps_44 K hr ?_
        rw [x125, x124i, x124, nI_clamp (n := 12 * eG E + 4) (by omega), hrow.2.1, nI_clamp (n := 12 * eG E + 5 + i) (by omega), nI_clamp (n := 12 * eG E + 4 + i) (by omega), ei]
        refine ⟨vp_in_nI (by omega) (by decide), fun z => absurd z (nI_ge (by omega) (by omega)), fun _ => ⟨vp_in_nI (by omega) (by decide), fun z => ?_, fun z => ⟨vp_in_nI (by omega) (by decide), fun z2 => ?_, fun z2 => ?_⟩⟩⟩
        · have e0 : i = 0 := by
            rcases Nat.eq_zero_or_pos i with q | q
            · exact q
            · exact absurd z (nI_nle q (by omega))
          exact x_RM_allSteps_104 K hr (first (Or.inl e0))
        · have hi0 : 0 < i := by
            rcases Nat.eq_zero_or_pos i with q | q
            · rw [q] at z; exact absurd (Int32.le_refl _) z
            · exact q
          have hi1 := (sp_getD_mem (l := sp_cs f) (i := i - 1) (by omega)).2
          have e1 : ro (12 * eG E + 4 + i) = nI ((sp_cs f).getD (i - 1) 0) := by
            have := hrow.2.2 (i - 1) _ hi1
            rwa [show 12 * eG E + 5 + (i - 1) = 12 * eG E + 4 + i by omega] at this
          refine x_RM_allSteps_104 K hr (first (Or.inr (fun q => z2 ?_)))
          rw [e1, q]
        · have hi0 : 0 < i := by
            rcases Nat.eq_zero_or_pos i with q | q
            · rw [q] at z; exact absurd (Int32.le_refl _) z
            · exact q
          have hi1 := (sp_getD_mem (l := sp_cs f) (i := i - 1) (by omega)).2
          have hc1 := hvk.2.1 _ (sp_getD_mem (l := sp_cs f) (i := i - 1) (by omega)).1
          have e1 : ro (12 * eG E + 4 + i) = nI ((sp_cs f).getD (i - 1) 0) := by
            have := hrow.2.2 (i - 1) _ hi1
            rwa [show 12 * eG E + 5 + (i - 1) = 12 * eG E + 4 + i by omega] at this
          rw [e1] at z2
          have heq := (nI_eq (by omega) (by omega)).mp z2
          refine x_RM_allSteps_105 K hr c_RM_make (by decide) ⟨fun _ => ?_, fun z => absurd z (by decide)⟩
          rw [nI_1]
          exact skip (fun ⟨q, _, _⟩ => by
            rcases q with q | q
            · omega
            · exact q heq)
    refine key (sp_n f) 0 0 E _ (by omega) (by omega) hw0 rfl hg hN0 hf ?_
    have etr : sp_tr R room f node r (E, 0) = if sp_n f + sp_gw R r (rC R r) ≤ 8 then sp_tc R room f node r (sp_n f) 0 (E, 0) else (E, 0) := by
      unfold sp_tr
      by_cases hcap : sp_n f + sp_gw R r (rC R r) ≤ 8
      · rw [if_pos hcap, if_pos ⟨hst, by rw [if_neg hv]; exact hcap⟩, if_neg hv]
      · rw [if_neg hcap, if_neg (fun q => hcap (by have := q.2; rw [if_neg hv] at this; exact this))]
    rw [etr] at hp
    exact hp
  · have hv : rV R r = 0 := (nI_m1 (by omega)).mp z
    obtain ⟨sm2, at2, o2, nx2, ls2, hrq⟩ := hw0
    refine ⟨R, room, eG E, node, r, 0, E, th, sm2, at2, (-1), o2, nx2, ls2, rfl, rfl, hrq, hg, hn, hrU, rfl, Or.inl ⟨rfl, hv⟩, fun hcap => ?_, fun hcap nx' w' hnx hw' => ?_⟩
    · rw [← hf, if_pos rfl] at hcap
      have etr : sp_tr R room f node r (E, 0) = (E, 0) := by
        unfold sp_tr
        rw [if_neg (fun q => hcap (by have := q.2; rw [if_pos hv] at this; exact this))]
      rw [etr] at hp
      refine x_RM_allSteps_18 K hr c_RM_step (by decide) ⟨fun z => absurd rfl z, fun _ => ?_⟩
      have h9 := hp _ ⟨sm2, at2, o2, nx2, ls2, hrq⟩
      rw [if_pos hN0] at h9
      exact h9
    · rw [← hf] at hnx
      rw [← hf, if_pos rfl] at hcap
      have etr : sp_tr R room f node r (E, 0) = sp_mk R room f node r 0 (E, 0) := by
        unfold sp_tr
        rw [if_pos ⟨hst, by rw [if_pos hv]; exact hcap⟩, if_pos hv]
      rw [etr] at hp
      have hok : sp_ok R f node r 0 := ⟨hn, hrU, hvk, Or.inl ⟨rfl, hv⟩, by rw [if_pos rfl]; exact hcap⟩
      have hw'0 := hw'
      obtain ⟨bw, xf, xe, xt, xn, xk, xw, xb, nm, ro, od, le, pa, br, so, al, ot, rfl, -⟩ := hw'
      refine x_RM_allSteps_18 K hr c_RM_step (by decide) ⟨fun _ => ?_, fun z => absurd z (by decide)⟩
      refine ⟨R, room, f, node, r, 0, E, th, sm2, at2, o2, nx', ls2, rfl, rfl, hw'0, hok, hg, hN0, hnx, fun w9 hw9 => ?_⟩
      have h9 := hp _ hw9
      have hm2 : (sp_mk R room f node r 0 (E, 0)).2 = 1 := (mk_g R room f node r 0 (E, 0)).2.2
      rw [hm2] at h9
      obtain ⟨sm, at9, o, nx, ls, bw, xf, xe, xt, xn, xk, xw, xb, nm, ro, od, le, pa, br, so, al, ot, rfl, -⟩ := hw9
      by_cases hen : eN (sp_mk R room f node r 0 (E, 0)).1 = 0
      · rw [if_pos hen] at h9 ⊢
        exact x_RM_allSteps_29 K hr ⟨fun z => absurd z (by decide), fun _ => h9⟩
      · rw [if_neg hen] at h9 ⊢
        exact x_RM_allSteps_29 K hr ⟨fun _ => h9, fun z => absurd rfl z⟩

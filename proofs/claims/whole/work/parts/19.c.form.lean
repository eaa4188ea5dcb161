/-! ===== THE REFERENCE: form, isThere, isBad ===== -/
theorem key_vk {N q : Nat} {st : Nat → Nat} {cs : List Nat} (h4 : N ≤ 4) (hq : q ∈ sp_pl N) (hs : ∀ i, i < N → st i < 8) (hc : sp_vc N cs) (h7 : cs.length ≤ 7) : sp_vk N (sp_key N st cs (sp_nb q)) := by
  have hc' : ∀ c ∈ cs, c < 96 := fun c h => (hc c h).1
  have hpm := sp_pl_pm h4 hq
  obtain ⟨p1, p2, p3⟩ := sp_key_parts hs (fun i _ => sp_nb_lt q i) hc' h7
  refine ⟨sp_key_lt hs (fun i _ => sp_nb_lt q i) hc', ?_, by rw [p3]; exact mt_sort_sd _, fun i hi hi4 => ?_, ?_, sp_cs_len _⟩
  · rw [p3]
    intro c hm
    obtain ⟨c0, hm0, rfl⟩ := List.mem_map.mp ((mt_sort_p _).mem_iff.mp hm)
    have hc0 := hc c0 hm0
    obtain ⟨-, r2, r3⟩ := sp_ren_parts h4 hpm hc0
    refine ⟨sp_ren_lt (fun i _ => sp_nb_lt q i) hc0.1, ?_, ?_⟩
    · rw [r2]; exact hpm.1 _ hc0.2.1
    · rw [r3]; exact hpm.1 _ hc0.2.2
  · rw [p1 i hi4]
    exact sp_dS_free (fun j hj he => by have := hpm.1 j hj; omega)
  · rw [p3]
    have e4 : sp_k4 (sp_st (sp_key N st cs (sp_nb q))) = sp_k4 (sp_dS st (sp_nb q) N) := by
      unfold sp_k4
      rw [p1 0 (by omega), p1 1 (by omega), p1 2 (by omega), p1 3 (by omega)]
    rw [e4]
    exact sp_key_split N st cs (sp_nb q)
def rm_N (N : Nat) (nm : Nat → Int32) : Prop := ∀ p, p < sp_fc N → ∀ i, i < N → nm (4 * p + i) = nI (sp_nb ((sp_pl N).getD p 0) i)
def sp_RM_form : am_S := fun av w post => ∃ (N : Nat) (th rm xS xK xU sz go st ol sk an bw sm at9 : Int32) (nm nx ot ls : Nat → Int32) (sv : Nat → Nat) (cs : List Nat), av = [aR 0] ∧ w.length = 19 ∧ w[0]? = some (cRM th (nI N) rm xS xK xU (nI (sp_fc N)) sz go st ol sk an bw sm at9) ∧ w[8]? = some (iC 96 nm) ∧ w[16]? = some (iC 12 nx) ∧ w[17]? = some (iC 12 ot) ∧ w[18]? = some (iC 12 ls) ∧ (1 ≤ N) ∧ (N ≤ 4) ∧ (rm_N N nm) ∧ (∀ i, i < N → nx i = nI (sv i) ∧ sv i < 8) ∧ (nx 4 = nI cs.length) ∧ (ar_is nx 5 cs) ∧ (cs.length ≤ 7) ∧ (sp_vc N cs) ∧ (∀ ot' ls' : Nat → Int32, rw_is ls' 0 (sp_can N sv cs) → post none (((w.set 17 (iC 12 ot')).set 18 (iC 12 ls')).set 0 (cRM th (nI N) rm xS xK xU (nI (sp_fc N)) sz go st ol sk an bw (nI (sp_sym N sv cs)) at9)))
set_option maxRecDepth 20000 in
set_option maxHeartbeats 2000000 in
theorem c_RM_form : Con y_RM_form b_RM_form 4 none 2 0 0 false sp_RM_form := by
  refine Con.of (by decide) (fun av w post h => by obtain ⟨N, th, rm, xS, xK, xU, sz, go, st, ol, sk, an, bw, sm, at9, nm, nx, ot, ls, sv, cs, rfl, -⟩ := h; exact Nat.le_of_ble_eq_true rfl) ?_
  intro X K hnm av w post h hr _
  obtain ⟨N, th, rm, xS, xK, xU, sz, go, st, ol, sk, an, bw, sm, at9, nm, nx, ot, ls, sv, cs, rfl, hlen, hc0, hc8, hc16, hc17, hc18, hN1, hN4, hnm, hst, h4, hcs, h7, hvc, hp⟩ := h
  obtain ⟨c0, c1, c2, c3, c4, c5, c6, c7, c8, c9, c10, c11, c12, c13, c14, c15, c16, c17, c18, rfl⟩ := len19 hlen
  obtain rfl : c0 = _ := Option.some.inj hc0
  obtain rfl : c8 = _ := Option.some.inj hc8
  obtain rfl : c16 = _ := Option.some.inj hc16
  obtain rfl : c17 = _ := Option.some.inj hc17
  obtain rfl : c18 = _ := Option.some.inj hc18
  have hfc := sp_fc_le N
  have hpl := (sp_pl_at hN1 hN4).2
  have hs8 : ∀ i, i < N → sv i < 8 := fun i hi => (hst i hi).2
  have hc96 : ∀ c ∈ cs, c < 96 := fun c h => (hvc c h).1
  obtain ⟨kq, hkq⟩ : ∃ kq : Nat → Nat, kq = fun p => sp_key N sv cs (sp_nb ((sp_pl N).getD p 0)) := ⟨_, rfl⟩
  have hget : ∀ p, p < sp_fc N → (sp_pl N)[p]? = some ((sp_pl N).getD p 0) := by
    intro p hp
    have := (sp_getD_mem (l := sp_pl N) (i := p) (by omega)).2
    exact this
  have hmem : ∀ p, p < sp_fc N → (sp_pl N).getD p 0 ∈ sp_pl N := fun p hp => (sp_getD_mem (l := sp_pl N) (i := p) (by omega)).1
  have hvk : ∀ p, p < sp_fc N → sp_vk N (kq p) := fun p hp => by rw [hkq]; exact key_vk hN4 (hmem p hp) hs8 hvc h7
  have hkn : ∀ p, sp_n (kq p) = cs.length := fun p => by rw [hkq]; exact (sp_key_parts hs8 (fun i _ => sp_nb_lt _ i) hc96 h7).2.1
  have hkM : ∀ p, kq p < sp_M := fun p => by rw [hkq]; exact Nat.lt_trans (sp_key_lt hs8 (fun i _ => sp_nb_lt _ i) hc96) (by decide)
  obtain ⟨L, hL⟩ : ∃ L : Nat → List Nat, L = fun p => ((sp_pl N).take p).map (fun q => sp_key N sv cs (sp_nb q)) := ⟨_, rfl⟩
  have hL0 : L 0 = [] := by rw [hL]; rfl
  have hLs : ∀ p, p < sp_fc N → L (p + 1) = L p ++ [kq p] := by
    intro p hp
    rw [hL, hkq]
    show ((sp_pl N).take (p + 1)).map _ = ((sp_pl N).take p).map _ ++ [_]
    rw [List.take_add_one, hget p hp, List.map_append]
    rfl
  have hLe : L (sp_fc N) = (sp_pl N).map (fun q => sp_key N sv cs (sp_nb q)) := by
    rw [hL]
    show ((sp_pl N).take (sp_fc N)).map _ = _
    rw [List.take_of_length_le (by omega)]
  have hLm : ∀ p, p ≤ sp_fc N → ∀ x ∈ L p, ∃ p', p' < sp_fc N ∧ x = kq p' := by
    intro p
    induction p with
    | zero => intro _ x hx; rw [hL0] at hx; cases hx
    | succ p ih =>
      intro hp x hx
      rw [hLs p (by omega)] at hx
      rcases List.mem_append.mp hx with h | h
      · exact ih (by omega) x h
      · rw [List.mem_singleton] at h; exact ⟨p, by omega, h⟩
  have hbest : ∀ p, 0 < p → p ≤ sp_fc N → ∃ p', p' < sp_fc N ∧ mt_best sp_M (L p) = kq p' := by
    intro p h0 hp
    rcases mt_best_mem sp_M (L p) with h | h
    · obtain ⟨p, rfl⟩ : ∃ p9, p = p9 + 1 := ⟨p - 1, by omega⟩
      have h1 := (mt_best_le sp_M (L (p + 1))).2 (kq p) (by rw [hLs p (by omega)]; simp)
      have h2 := hkM p
      omega
    · exact hLm p hp _ h
  have k7 : ∀ (t p : Nat) (sm : Int32) (ob lb : Nat → Int32), p + t = sp_fc N → (0 < p → rw_is lb 0 (mt_best sp_M (L p))) → sm = nI (mt_cnt sp_M (L p)) → AW X 7 [some (aR 0), some (aI (nI p)), none, none] [] [cRM th (nI N) rm xS xK xU (nI (sp_fc N)) sz go st ol sk an bw sm at9, c1, c2, c3, c4, c5, c6, c7, iC 96 nm, c9, c10, c11, c12, c13, c14, c15, iC 12 nx, iC 12 ob, iC 12 lb] 0 0 := by
    intro t
    induction t with
    | zero =>
      intro p sm ob lb hp9 h1 h2
      have e : p = sp_fc N := by omega
      subst e
      refine x_RM_form_7 K hr c_RM_number (by decide) ⟨fun _ => ?_, fun z => absurd (Int32.le_refl _) z⟩
      rw [hLe] at h1 h2
      subst h2
      have hpos : 0 < sp_fc N := by rw [← hpl]; exact List.length_pos_iff.mpr (sp_pl_at hN1 hN4).1
      exact hp ob lb (h1 hpos)
    | succ t ih =>
      intro p sm ob lb hp9 h1 h2
      refine x_RM_form_7 K hr c_RM_number (by decide) ⟨fun z => absurd z (nI_ge (by omega) (by omega)), fun _ => ?_⟩
      refine ⟨N, p, _, _, _, _, _, _, _, _, _, _, _, _, _, _, _, nm, nx, ob, sp_nb ((sp_pl N).getD p 0), sv, cs, rfl, rfl, rfl, rfl, rfl, rfl, hN4, by omega, fun i hi => ⟨hnm p (by omega) i hi, (sp_pl_pm hN4 (hmem p (by omega))).1 i hi⟩, fun i hi => (hst i hi).1, h4, hcs, h7, hvc, fun ob' g1 g2 g3 => ?_⟩
      have hrow : rw_is ob' 0 (kq p) := by
        obtain ⟨p1, p2, p3⟩ := sp_key_parts (g := sp_nb ((sp_pl N).getD p 0)) hs8 (fun i _ => sp_nb_lt _ i) hc96 h7
        rw [hkq]
        refine ⟨fun j hj => ?_, ?_, ?_⟩
        · rw [Nat.zero_add, p1 j hj]; exact g1 j hj
        · show ob' (0 + 4) = nI (sp_n (sp_key N sv cs (sp_nb ((sp_pl N).getD p 0))))
          rw [p2]; exact g2
        · show ar_is ob' (0 + 5) (sp_cs (sp_key N sv cs (sp_nb ((sp_pl N).getD p 0))))
          rw [p3]; exact g3
      have copy : ∀ (t2 j : Nat) (lb2 : Nat → Int32), j + t2 = 5 + cs.length → (∀ i, i < j → lb2 i = ob' i) → kq p < mt_best sp_M (L p) → AW X 73 [some (aR 0), some (aI (nI p)), some (aI (-1)), some (aI (nI j))] [] [cRM th (nI N) rm xS xK xU (nI (sp_fc N)) sz go st ol sk an bw (0 + 1) at9, c1, c2, c3, c4, c5, c6, c7, iC 96 nm, c9, c10, c11, c12, c13, c14, c15, iC 12 nx, iC 12 ob', iC 12 lb2] 0 0 := by
        intro t2
        induction t2 with
        | zero =>
          intro j lb2 hj hd hlt
          refine x_RM_form_73 K hr ?_
          rw [xc4, h4, xa5]
          refine ⟨fun _ => ?_, fun z => absurd (nI_le (by omega) (by omega)) z⟩
          rw [nI_1]
          have ebest : mt_best sp_M (L (p + 1)) = kq p := by rw [hLs p (by omega), mt_best_app, if_pos hlt]
          refine ih (p + 1) _ ob' lb2 (by omega) (fun _ => ?_) ?_
          · rw [ebest]
            obtain ⟨r1, r2, r3⟩ := hrow
            have hk := hkn p
            refine ⟨fun i hi => by rw [Nat.zero_add, hd i (by omega)]; have := r1 i hi; rwa [Nat.zero_add] at this, by rw [Nat.zero_add, hd 4 (by omega)]; rwa [Nat.zero_add] at r2, fun i c hc => ?_⟩
            have hi := (List.getElem?_eq_some_iff.mp hc).1
            rw [sp_cs_len, hk] at hi
            rw [hd (0 + 5 + i) (by omega)]
            exact r3 i c hc
          · rw [hLs p (by omega), mt_cnt_app_lt hlt]; rfl
        | succ t2 ih2 =>
          intro j lb2 hj hd hlt
          refine x_RM_form_73 K hr ?_
          rw [xc4, h4, xa5]
          refine ⟨fun z => absurd z (nI_ge (by omega) (by omega)), fun _ => ⟨fun z => absurd z (by decide), fun _ => ⟨vp_in_nI (by omega) (by decide), vp_in_nI (by omega) (by decide), ?_⟩⟩⟩
          rw [nI_clamp (by omega), nI_1]
          refine ih2 (j + 1) _ (by omega) (fun i hi => ?_) hlt
          by_cases e : i = j
          · rw [e, pk_us]
          · rw [pk_un e]; exact hd i (by omega)
      have less : kq p < mt_best sp_M (L p) → AW X 47 [some (aR 0), some (aI (nI p)), none, none] [aI (-1)] [cRM th (nI N) rm xS xK xU (nI (sp_fc N)) sz go st ol sk an bw sm at9, c1, c2, c3, c4, c5, c6, c7, iC 96 nm, c9, c10, c11, c12, c13, c14, c15, iC 12 nx, iC 12 ob', iC 12 lb] 0 0 := by
        intro hlt
        refine x_RM_form_47 K hr ⟨fun z => absurd z (by decide), fun _ => ?_⟩
        refine x_RM_form_57 K hr ⟨fun z => absurd z (by decide), fun _ => ?_⟩
        exact copy (5 + cs.length) 0 lb (by omega) (fun i hi => by omega) hlt
      refine x_RM_form_20 K hr c_RM_compare (by decide) ⟨fun z => ?_, fun z => ?_⟩
      · have hp0 : 0 < p := by
          rcases Nat.eq_zero_or_pos p with h | h
          · exact absurd (by rw [h]; rfl) z
          · exact h
        obtain ⟨p', hp', eb⟩ := hbest p hp0 (by omega)
        have hlb := h1 hp0
        rw [eb] at hlb
        rw [xc4, h4, xa5]
        refine ⟨N, kq p, kq p', ob', lb, by rw [hkn p], rfl, rfl, rfl, hvk p (by omega), hvk p' hp', by rw [hkn, hkn], hrow, hlb, fun q => ?_, fun q => ?_, fun q => ?_⟩
        · rw [← eb] at q
          refine x_RM_form_47 K hr ⟨fun _ => ?_, fun z => absurd (by decide) z⟩
          refine x_RM_form_57 K hr ⟨fun z => absurd z (by decide), fun _ => ?_⟩
          have hx : AW X 7 [some (aR 0), some (aI (nI p + 1)), none, none] [] [cRM th (nI N) rm xS xK xU (nI (sp_fc N)) sz go st ol sk an bw (sm + 1) at9, c1, c2, c3, c4, c5, c6, c7, iC 96 nm, c9, c10, c11, c12, c13, c14, c15, iC 12 nx, iC 12 ob', iC 12 lb] 0 0 := by
            rw [nI_1]
            refine ih (p + 1) _ ob' lb (by omega) (fun _ => ?_) ?_
            · rw [hLs p (by omega), mt_best_app, if_neg (by omega)]; exact h1 hp0
            · rw [hLs p (by omega), mt_cnt_app_eq q, h2, nI_1]
          refine x_RM_form_73 K hr ⟨fun _ => hx, fun _ => ⟨fun _ => hx, fun z => absurd (by decide) z⟩⟩
        · rw [← eb] at q
          exact less q
        · rw [← eb] at q
          refine x_RM_form_47 K hr ⟨fun _ => ?_, fun z => absurd (by decide) z⟩
          refine x_RM_form_57 K hr ⟨fun _ => ?_, fun z => absurd (by decide) z⟩
          have hx : AW X 7 [some (aR 0), some (aI (nI p + 1)), none, none] [] [cRM th (nI N) rm xS xK xU (nI (sp_fc N)) sz go st ol sk an bw sm at9, c1, c2, c3, c4, c5, c6, c7, iC 96 nm, c9, c10, c11, c12, c13, c14, c15, iC 12 nx, iC 12 ob', iC 12 lb] 0 0 := by
            rw [nI_1]
            refine ih (p + 1) _ ob' lb (by omega) (fun _ => ?_) ?_
            · rw [hLs p (by omega), mt_best_app, if_neg (by omega)]; exact h1 hp0
            · rw [hLs p (by omega), mt_cnt_app_gt q, h2]
          refine x_RM_form_73 K hr ⟨fun _ => hx, fun _ => ⟨fun _ => hx, fun z => absurd (by decide) z⟩⟩
      · have hp0 : p = 0 := (nI_eq (b := 0) (by omega) (by omega)).mp z
        refine less ?_
        rw [hp0, hL0]
        exact hkM 0
  refine x_RM_form_0 K hr ?_
  exact k7 (sp_fc N) 0 0 ot ls (by omega) (fun h => absurd h (by omega)) (by rw [hL0]; rfl)
def sp_RM_isThere : am_S := fun av w post => ∃ (N Z g : Nat) (th xN rm xS xK xU nu go st ol sk an bw sm at9 : Int32) (ro od ls : Nat → Int32) (F o : Nat → Nat), av = [aR 0] ∧ w.length = 19 ∧ w[0]? = some (cRM th xN rm xS xK xU nu (nI Z) go st ol sk an bw sm at9) ∧ w[9]? = some (iC 98304 ro) ∧ w[10]? = some (iC 8192 od) ∧ w[18]? = some (iC 12 ls) ∧ (Z ≤ 8192) ∧ (∀ i, i < Z → od i = nI (o i) ∧ o i < Z) ∧ (∀ k, k < Z → rw_is ro (12 * k) (F k) ∧ sp_vk N (F k)) ∧ (∀ i j, i < j → j < Z → sp_rk (F (o i)) < sp_rk (F (o j))) ∧ (rw_is ls 0 g) ∧ (sp_vk N g) ∧ (∀ a : Nat, a ≤ Z → (∀ i, i < a → sp_rk (F (o i)) < sp_rk g) → (∀ i, a ≤ i → i < Z → sp_rk g ≤ sp_rk (F (o i))) → post (some (aI (if a < Z ∧ F (o a) = g then 1 else 0))) (w.set 0 (cRM th xN rm xS xK xU nu (nI Z) go st ol sk an bw sm (nI a))))
set_option maxRecDepth 20000 in
set_option maxHeartbeats 2000000 in
theorem c_RM_isThere : Con y_RM_isThere b_RM_isThere 4 (some .boolean) 1 0 0 false sp_RM_isThere := by
  refine Con.of (by decide) (fun av w post h => by obtain ⟨N, Z, g, th, xN, rm, xS, xK, xU, nu, go, st, ol, sk, an, bw, sm, at9, ro, od, ls, F, o, rfl, -⟩ := h; exact Nat.le_of_ble_eq_true rfl) ?_
  intro X K hnm av w post h hr _
  obtain ⟨N, Z, g, th, xN, rm, xS, xK, xU, nu, go, st, ol, sk, an, bw, sm, at9, ro, od, ls, F, o, rfl, hlen, hc0, hc9, hc10, hc18, hZ, hod, hro, hsd, hls, hg, hp⟩ := h
  obtain ⟨c0, c1, c2, c3, c4, c5, c6, c7, c8, c9, c10, c11, c12, c13, c14, c15, c16, c17, c18, rfl⟩ := len19 hlen
  obtain rfl : c0 = _ := Option.some.inj hc0
  obtain rfl : c9 = _ := Option.some.inj hc9
  obtain rfl : c10 = _ := Option.some.inj hc10
  obtain rfl : c18 = _ := Option.some.inj hc18
  have key : ∀ (m lo hi : Nat), hi - lo ≤ m → lo ≤ hi → hi ≤ Z → (∀ i, i < lo → sp_rk (F (o i)) < sp_rk g) → (∀ i, hi ≤ i → i < Z → sp_rk g ≤ sp_rk (F (o i))) → AW X 7 [some (aR 0), some (aI (nI lo)), some (aI (nI hi)), none] [] [cRM th xN rm xS xK xU nu (nI Z) go st ol sk an bw sm at9, c1, c2, c3, c4, c5, c6, c7, c8, iC 98304 ro, iC 8192 od, c11, c12, c13, c14, c15, c16, c17, iC 12 ls] 0 0 := by
    intro m
    induction m with
    | zero =>
      intro lo hi h1 h2 h3 h5 h6
      have e : lo = hi := by omega
      subst e
      refine x_RM_isThere_7 K hr c_RM_compareRow (by decide) ⟨fun _ => ⟨fun z => ?_, fun z => ?_⟩, fun z => absurd (Int32.le_refl _) z⟩
      · have h := hp lo h3 h5 h6
        rw [if_neg (fun q => absurd z (nI_ge q.1 (by omega)))] at h
        exact h
      · have hlt : lo < Z := by
          rcases Nat.lt_or_ge lo Z with h | h
          · exact h
          · exact absurd (nI_le h (by omega)) z
        refine ⟨vp_in_nI (by omega) (by decide), ?_⟩
        rw [nI_clamp (by omega), (hod lo hlt).1]
        have hol := (hod lo hlt).2
        have h := hp lo h3 h5 h6
        refine ⟨N, F (o lo), g, o lo, th, xN, rm, xS, xK, xU, nu, nI Z, go, st, ol, sk, an, bw, sm, nI lo, ro, ls, rfl, rfl, rfl, rfl, rfl, by omega, (hro _ hol).2, hg, (hro _ hol).1, hls, fun q => ?_, fun q => ?_, fun q => ?_⟩
        · rw [if_pos ⟨hlt, q⟩] at h
          exact x_RM_isThere_66 K hr ⟨fun z => absurd rfl z, fun _ => h⟩
        · have := h6 lo (Nat.le_refl _) hlt; omega
        · rw [if_neg (fun q2 => by rw [q2.2] at q; omega)] at h
          exact x_RM_isThere_66 K hr ⟨fun _ => h, fun z => absurd z (by decide)⟩
    | succ m ih =>
      intro lo hi h1 h2 h3 h5 h6
      rcases Nat.lt_or_ge lo hi with hlt | hge
      · refine x_RM_isThere_7 K hr c_RM_compareRow (by decide) ⟨fun z => absurd z (nI_ge hlt (by omega)), fun _ => ?_⟩
        have em : (nI lo + nI hi) / (2 : Int32) = nI ((lo + hi) / 2) := by
          rw [nI_add]
          exact pk_div (d := 2) (by omega) (by omega) (by omega)
        rw [em]
        obtain ⟨mid, hmid⟩ : ∃ mid, mid = (lo + hi) / 2 := ⟨_, rfl⟩
        rw [← hmid]
        have hm1 : lo ≤ mid := by omega
        have hm2 : mid < hi := by omega
        have hm3 : mid < Z := by omega
        refine ⟨vp_in_nI (by omega) (by decide), ?_⟩
        rw [nI_clamp (by omega), (hod mid hm3).1]
        have hol := (hod mid hm3).2
        have right : sp_rk g ≤ sp_rk (F (o mid)) → AW X 7 [some (aR 0), some (aI (nI lo)), some (aI (nI mid)), none] [] [cRM th xN rm xS xK xU nu (nI Z) go st ol sk an bw sm at9, c1, c2, c3, c4, c5, c6, c7, c8, iC 98304 ro, iC 8192 od, c11, c12, c13, c14, c15, c16, c17, iC 12 ls] 0 0 := fun q => ih lo mid (by omega) hm1 (by omega) h5 (fun i hi1 hi2 => by
          by_cases e : i = mid
          · rw [e]; exact q
          · have := hsd mid i (by omega) hi2; omega)
        refine ⟨N, F (o mid), g, o mid, th, xN, rm, xS, xK, xU, nu, nI Z, go, st, ol, sk, an, bw, sm, at9, ro, ls, rfl, rfl, rfl, rfl, rfl, by omega, (hro _ hol).2, hg, (hro _ hol).1, hls, fun q => ?_, fun q => ?_, fun q => ?_⟩
        · exact x_RM_isThere_28 K hr ⟨fun _ => right (by rw [q]; exact Nat.le_refl _), fun z => absurd (by decide) z⟩
        · refine x_RM_isThere_28 K hr ⟨fun z => absurd z (by decide), fun _ => ?_⟩
          rw [nI_1]
          exact ih (mid + 1) hi (by omega) (by omega) h3 (fun i hi1 => by
            by_cases e : i = mid
            · rw [e]; exact q
            · have := hsd i mid (by omega) hm3; omega) h6
        · exact x_RM_isThere_28 K hr ⟨fun _ => right (by omega), fun z => absurd (by decide) z⟩
      · exact ih lo hi (by omega) h2 h3 h5 h6
  refine x_RM_isThere_0 K hr ?_
  exact key Z 0 Z (by omega) (by omega) (Nat.le_refl _) (fun i hi => by omega) (fun i h1 h2 => by omega)
def pb_i (bad : Nat → Nat → Bool) (sv : Nat → Nat) (i j : Nat) : Bool := (List.range j).any (fun b => bad (sv i) (sv b))
def pb_o (bad : Nat → Nat → Bool) (sv : Nat → Nat) (i : Nat) : Bool := (List.range i).any (fun a => pb_i bad sv a a)
theorem pb_is {bad : Nat → Nat → Bool} {sv : Nat → Nat} {i j : Nat} : pb_i bad sv i (j + 1) = (pb_i bad sv i j || bad (sv i) (sv j)) := by
  unfold pb_i
  rw [List.range_succ, List.any_append]
  simp
theorem pb_os {bad : Nat → Nat → Bool} {sv : Nat → Nat} {i : Nat} : pb_o bad sv (i + 1) = (pb_o bad sv i || pb_i bad sv i i) := by
  unfold pb_o
  rw [List.range_succ, List.any_append]
  simp
theorem pb_all {bad : Nat → Nat → Bool} {sv : Nat → Nat} {N : Nat} (hs : ∀ x y, bad x y = bad y x) : pb_o bad sv N = sp_bw N bad sv := by
  rw [Bool.eq_iff_iff]
  unfold pb_o pb_i sp_bw
  simp only [List.any_eq_true, List.mem_range, Bool.and_eq_true, Bool.not_eq_true', beq_eq_false_iff_ne]
  constructor
  · rintro ⟨a, ha, b, hb, h⟩
    exact ⟨a, ha, b, by omega, by omega, h⟩
  · rintro ⟨a, ha, b, hb, hne, h⟩
    rcases Nat.lt_or_ge b a with q | q
    · exact ⟨a, ha, b, q, h⟩
    · exact ⟨b, hb, a, by omega, by rw [hs]; exact h⟩
def sp_RM_isBad : am_S := fun av w post => ∃ (N : Nat) (th rm xS xK xU nu sz go st ol sk an bw sm at9 : Int32) (xb ls : Nat → Int32) (bad : Nat → Nat → Bool) (sv : Nat → Nat), av = [aR 0] ∧ w.length = 19 ∧ w[0]? = some (cRM th (nI N) rm xS xK xU nu sz go st ol sk an bw sm at9) ∧ w[7]? = some (zC 64 xb) ∧ w[18]? = some (iC 12 ls) ∧ (N ≤ 4) ∧ (∀ a b, a < 8 → b < 8 → xb (8 * a + b) = if bad a b = true then 1 else 0) ∧ (∀ i, i < N → ls i = nI (sv i) ∧ sv i < 8) ∧ (∀ x y, bad x y = bad y x) ∧ (post (some (aI (if sp_bw N bad sv = true then 1 else 0))) w)
set_option maxRecDepth 20000 in
set_option maxHeartbeats 2000000 in
theorem c_RM_isBad : Con y_RM_isBad b_RM_isBad 4 (some .boolean) 0 0 0 false sp_RM_isBad := by
  refine Con.of (by decide) (fun av w post h => by obtain ⟨N, th, rm, xS, xK, xU, nu, sz, go, st, ol, sk, an, bw, sm, at9, xb, ls, bad, sv, rfl, -⟩ := h; exact Nat.le_of_ble_eq_true rfl) ?_
  intro X K hnm av w post h hr _
  obtain ⟨N, th, rm, xS, xK, xU, nu, sz, go, st, ol, sk, an, bw, sm, at9, xb, ls, bad, sv, rfl, hlen, hc0, hc7, hc18, hN4, hb, hls, hs, hp⟩ := h
  obtain ⟨c0, c1, c2, c3, c4, c5, c6, c7, c8, c9, c10, c11, c12, c13, c14, c15, c16, c17, c18, rfl⟩ := len19 hlen
  obtain rfl : c0 = _ := Option.some.inj hc0
  obtain rfl : c7 = _ := Option.some.inj hc7
  obtain rfl : c18 = _ := Option.some.inj hc18
  have x8 : ∀ a b : Nat, ((8 : Int32) * nI a) + nI b = nI (8 * a + b) := by
    intro a b
    have h : nI 8 * nI a + nI b = nI (8 * a + b) := by rw [pk_mul, nI_add]
    exact h
  have k4 : ∀ (t i : Nat), i + t = N → AW X 4 [some (aR 0), some (aI (if pb_o bad sv i = true then 1 else 0)), some (aI (nI i)), none] [] [cRM th (nI N) rm xS xK xU nu sz go st ol sk an bw sm at9, c1, c2, c3, c4, c5, c6, zC 64 xb, c8, c9, c10, c11, c12, c13, c14, c15, c16, c17, iC 12 ls] 0 0 := by
    intro t
    induction t with
    | zero =>
      intro i hi
      have e : i = N := by omega
      subst e
      refine x_RM_isBad_4 K hr ⟨fun _ => ⟨?_, ?_⟩, fun z => absurd (Int32.le_refl _) z⟩
      · split
        · exact Or.inr rfl
        · exact Or.inl rfl
      · rw [pb_all hs]; exact hp
    | succ t ih =>
      intro i hi
      refine x_RM_isBad_4 K hr ⟨fun z => absurd z (nI_ge (by omega) (by omega)), fun _ => ?_⟩
      have k14 : ∀ (t j : Nat), j + t = i → AW X 14 [some (aR 0), some (aI (if (pb_o bad sv i || pb_i bad sv i j) = true then 1 else 0)), some (aI (nI i)), some (aI (nI j))] [] [cRM th (nI N) rm xS xK xU nu sz go st ol sk an bw sm at9, c1, c2, c3, c4, c5, c6, zC 64 xb, c8, c9, c10, c11, c12, c13, c14, c15, c16, c17, iC 12 ls] 0 0 := by
        intro t2
        induction t2 with
        | zero =>
          intro j hj
          have e : j = i := by omega
          subst e
          refine x_RM_isBad_14 K hr ⟨fun _ => ?_, fun z => absurd (Int32.le_refl _) z⟩
          rw [nI_1, ← pb_os]
          exact ih (j + 1) (by omega)
        | succ t2 ih2 =>
          intro j hj
          refine x_RM_isBad_14 K hr ⟨fun z => absurd z (nI_ge (by omega) (by omega)), fun _ => ⟨fun z => ?_, fun z => ?_⟩⟩
          · have h1 : (pb_o bad sv i || pb_i bad sv i j) = true := by
              cases h : (pb_o bad sv i || pb_i bad sv i j) with
              | true => rfl
              | false => rw [h] at z; exact absurd rfl z
            have h2 := ih2 (j + 1) (by omega)
            rw [pb_is, ← Bool.or_assoc, h1, Bool.true_or, if_pos rfl] at h2
            rw [nI_1]
            exact h2
          · have h1 : (pb_o bad sv i || pb_i bad sv i j) = false := by
              cases h : (pb_o bad sv i || pb_i bad sv i j) with
              | false => rfl
              | true => rw [h] at z; exact absurd z (by decide)
            have h2 := ih2 (j + 1) (by omega)
            rw [pb_is, ← Bool.or_assoc, h1, Bool.false_or] at h2
            obtain ⟨a1, a2⟩ := hls i (by omega)
            obtain ⟨b1, b2⟩ := hls j (by omega)
            rw [nI_clamp (n := i) (by omega), nI_clamp (n := j) (by omega), a1, b1, x8, nI_clamp (n := 8 * sv i + sv j) (by omega), hb _ _ a2 b2, nI_1]
            refine ⟨vp_in_nI (by omega) (by decide), vp_in_nI (by omega) (by decide), vp_in_nI (by omega) (by decide), fun z2 => ?_, fun z2 => ?_⟩
            · cases hB : bad (sv i) (sv j) with
              | true => rw [hB] at z2; exact absurd z2 (by decide)
              | false => rw [hB] at h2; exact h2
            · cases hB : bad (sv i) (sv j) with
              | true => rw [hB] at h2; exact h2
              | false => rw [hB] at z2; exact absurd rfl z2
      have h := k14 i 0 (by omega)
      have e0 : pb_i bad sv i 0 = false := rfl
      rw [e0, Bool.or_false] at h
      exact h
  refine x_RM_isBad_0 K hr ?_
  exact k4 N 0 (by omega)

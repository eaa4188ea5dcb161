/-! ===== THE REFERENCE: compare, number, form, compareRow ===== -/
abbrev cRM (th N rm S K U nu sz go st ol sk an bw sm at9 : Int32) : am_C := oC 5 [aI th, aI N, aI rm, aI S, aI K, aI U, aR 1, aR 2, aR 3, aR 4, aR 5, aR 6, aR 7, aR 8, aI nu, aI sz, aI go, aI st, aI ol, aI sk, aI an, aI bw, aR 9, aR 10, aR 11, aR 12, aR 13, aR 14, aR 15, aR 16, aR 17, aR 18, aI sm, aI at9]
def sp_RM_compare : am_S := fun av w post => ∃ (N k1 k2 : Nat) (a b : Nat → Int32), av = [aR 17, aR 18, aI (nI (5 + sp_n k1))] ∧ w.length = 19 ∧ w[17]? = some (iC 12 a) ∧ w[18]? = some (iC 12 b) ∧ (sp_vk N k1) ∧ (sp_vk N k2) ∧ (sp_n k1 = sp_n k2) ∧ (rw_is a 0 k1) ∧ (rw_is b 0 k2) ∧ ((k1 = k2 → post (some (aI 0)) w) ∧ (k1 < k2 → post (some (aI (-1))) w) ∧ (k2 < k1 → post (some (aI 1)) w))
set_option maxRecDepth 20000 in
set_option maxHeartbeats 2000000 in
theorem c_RM_compare : Con y_RM_compare b_RM_compare 4 (some .int) 0 0 0 false sp_RM_compare := by
  refine Con.of (by decide) (fun av w post h => by obtain ⟨N, k1, k2, a, b, rfl, -⟩ := h; exact Nat.le_of_ble_eq_true rfl) ?_
  intro X K hnm av w post h hr _
  obtain ⟨N, k1, k2, a, b, rfl, hlen, hc17, hc18, h1, h2, hn, ha, hb, hp⟩ := h
  obtain ⟨c0, c1, c2, c3, c4, c5, c6, c7, c8, c9, c10, c11, c12, c13, c14, c15, c16, c17, c18, rfl⟩ := len19 hlen
  obtain rfl : c17 = _ := Option.some.inj hc17
  obtain rfl : c18 = _ := Option.some.inj hc18
  have hn7 := sp_n_le k1
  have key : ∀ (t i : Nat), i + t = 5 + sp_n k1 → (∀ j, j < i → rg k1 j = rg k2 j) → AW X 2 [some (aR 17), some (aR 18), some (aI (nI (5 + sp_n k1))), some (aI (nI i))] [] [c0, c1, c2, c3, c4, c5, c6, c7, c8, c9, c10, c11, c12, c13, c14, c15, c16, iC 12 a, iC 12 b] 0 0 := by
    intro t
    induction t with
    | zero =>
      intro i hi hd
      refine x_RM_compare_2 K hr ⟨fun _ => hp.1 (rg_all h1 h2 (fun j hj => ?_)), fun z => absurd (nI_le (by omega) (by omega)) z⟩
      by_cases q : j < 5 + sp_n k1
      · exact hd j (by omega)
      · rw [rg_tail (by omega), rg_tail (by omega)]
    | succ t ih =>
      intro i hi hd
      obtain ⟨e1, l1⟩ := vl_at h1 ha (show i < 5 + sp_n k1 by omega)
      obtain ⟨e2, l2⟩ := vl_at h2 hb (show i < 5 + sp_n k2 by omega)
      rw [Nat.zero_add] at e1 e2
      obtain ⟨q1, q2⟩ := vl_eq (k1 := k1) (k2 := k2) (i := i) (by omega) (by omega)
      obtain ⟨-, q3⟩ := vl_eq (k1 := k2) (k2 := k1) (i := i) (by omega) (by omega)
      have hin : vp_in (nI i) 12 := vp_in_nI (by omega) (by decide)
      refine x_RM_compare_2 K hr ⟨fun z => absurd z (nI_ge (by omega) (by omega)), fun _ => ⟨hin, hin, ?_⟩⟩
      rw [nI_clamp (by omega), e1, e2]
      refine ⟨fun z => ?_, fun z => ⟨hin, hin, fun z2 => ?_, fun z2 => ?_⟩⟩
      · rw [nI_1]
        have hz := q1.mp ((nI_eq (by omega) (by omega)).mp z)
        exact ih (i + 1) (by omega) (fun j hj => by
          by_cases e : j = i
          · rw [e]; exact hz
          · exact hd j (by omega))
      · have h3 : vl k2 i ≤ vl k1 i := (nI_leI (by omega) (by omega)).mp z2
        have h4 : vl k1 i ≠ vl k2 i := fun q => z (by rw [q])
        exact hp.2.2 (rg_key h2 h1 hn.symm (by omega) (fun j hj => (hd j hj).symm) (q3.mp (by omega)))
      · have h3 : ¬ vl k2 i ≤ vl k1 i := fun q => z2 ((nI_leI (by omega) (by omega)).mpr q)
        exact hp.2.1 (rg_key h1 h2 hn (by omega) hd (q2.mp (by omega)))
  refine x_RM_compare_0 K hr ?_
  exact key (5 + sp_n k1) 0 (by omega) (fun j hj => by omega)
def sp_RM_compareRow : am_S := fun av w post => ∃ (N k1 k2 z : Nat) (th xN rm xS xK xU nu sz go st ol sk an bw sm at9 : Int32) (ro b : Nat → Int32), av = [aR 0, aI (nI z)] ∧ w.length = 19 ∧ w[0]? = some (cRM th xN rm xS xK xU nu sz go st ol sk an bw sm at9) ∧ w[9]? = some (iC 98304 ro) ∧ w[18]? = some (iC 12 b) ∧ (z < 8192) ∧ (sp_vk N k1) ∧ (sp_vk N k2) ∧ (rw_is ro (12 * z) k1) ∧ (rw_is b 0 k2) ∧ ((k1 = k2 → post (some (aI 0)) w) ∧ (sp_rk k1 < sp_rk k2 → post (some (aI (-1))) w) ∧ (sp_rk k2 < sp_rk k1 → post (some (aI 1)) w))
set_option maxRecDepth 20000 in
set_option maxHeartbeats 2000000 in
theorem c_RM_compareRow : Con y_RM_compareRow b_RM_compareRow 3 (some .int) 0 0 0 false sp_RM_compareRow := by
  refine Con.of (by decide) (fun av w post h => by obtain ⟨N, k1, k2, z, th, xN, rm, xS, xK, xU, nu, sz, go, st, ol, sk, an, bw, sm, at9, ro, b, rfl, -⟩ := h; exact Nat.le_of_ble_eq_true rfl) ?_
  intro X K hnm av w post h hr _
  obtain ⟨N, k1, k2, z, th, xN, rm, xS, xK, xU, nu, sz, go, st, ol, sk, an, bw, sm, at9, ro, b, rfl, hlen, hc0, hc9, hc18, hz8, h1, h2, ha, hb, hp⟩ := h
  obtain ⟨c0, c1, c2, c3, c4, c5, c6, c7, c8, c9, c10, c11, c12, c13, c14, c15, c16, c17, c18, rfl⟩ := len19 hlen
  obtain rfl : c0 = _ := Option.some.inj hc0
  obtain rfl : c9 = _ := Option.some.inj hc9
  obtain rfl : c18 = _ := Option.some.inj hc18
  have hn7 := sp_n_le k1
  have hm7 := sp_n_le k2
  have fin : ∀ (i : Nat), i < 5 + sp_n k1 → i < 5 + sp_n k2 → (∀ j, j < i → rg k1 j = rg k2 j) → ¬ nI (vl k1 i) = nI (vl k2 i) → (nI (vl k2 i) ≤ nI (vl k1 i) → post (some (aI 1)) [cRM th xN rm xS xK xU nu sz go st ol sk an bw sm at9, c1, c2, c3, c4, c5, c6, c7, c8, iC 98304 ro, c10, c11, c12, c13, c14, c15, c16, c17, iC 12 b]) ∧ (¬ nI (vl k2 i) ≤ nI (vl k1 i) → post (some (aI (-1))) [cRM th xN rm xS xK xU nu sz go st ol sk an bw sm at9, c1, c2, c3, c4, c5, c6, c7, c8, iC 98304 ro, c10, c11, c12, c13, c14, c15, c16, c17, iC 12 b]) := by
    intro i i1 i2 hd z
    obtain ⟨e1, l1⟩ := vl_at h1 ha i1
    obtain ⟨e2, l2⟩ := vl_at h2 hb i2
    obtain ⟨q1, q2⟩ := vl_eq i1 i2
    obtain ⟨-, q3⟩ := vl_eq i2 i1
    refine ⟨fun z2 => ?_, fun z2 => ?_⟩
    · have h3 : vl k2 i ≤ vl k1 i := (nI_leI (by omega) (by omega)).mp z2
      have h4 : vl k1 i ≠ vl k2 i := fun q => z (by rw [q])
      exact hp.2.2 (rg_rk h2 (by omega) (fun j hj => (hd j hj).symm) (q3.mp (by omega)))
    · have h3 : ¬ vl k2 i ≤ vl k1 i := fun q => z2 ((nI_leI (by omega) (by omega)).mpr q)
      exact hp.2.1 (rg_rk h1 (by omega) hd (q2.mp (by omega)))
  have nxt : ∀ (i : Nat), i < 5 + sp_n k1 → i < 5 + sp_n k2 → (∀ j, j < i → rg k1 j = rg k2 j) → nI (vl k1 i) = nI (vl k2 i) → ∀ j, j < i + 1 → rg k1 j = rg k2 j := by
    intro i i1 i2 hd z j hj
    obtain ⟨e1, l1⟩ := vl_at h1 ha i1
    obtain ⟨e2, l2⟩ := vl_at h2 hb i2
    by_cases e : j = i
    · rw [e]; exact (vl_eq i1 i2).1.mp ((nI_eq (by omega) (by omega)).mp z)
    · exact hd j (by omega)
  have key2 : ∀ (t i : Nat), i + t = sp_n k2 → sp_n k1 = sp_n k2 → (∀ j, j < 5 + i → rg k1 j = rg k2 j) → AW X 61 [some (aR 0), some (aI (nI z)), some (aI (nI i))] [] [cRM th xN rm xS xK xU nu sz go st ol sk an bw sm at9, c1, c2, c3, c4, c5, c6, c7, c8, iC 98304 ro, c10, c11, c12, c13, c14, c15, c16, c17, iC 12 b] 0 0 := by
    intro t
    induction t with
    | zero =>
      intro i hi hn hd
      refine x_RM_compareRow_61 K hr ?_
      rw [xc4, show b 4 = nI (sp_n k2) from by have := hb.2.1; rwa [Nat.zero_add] at this]
      refine ⟨fun _ => hp.1 (rg_all h1 h2 (fun j hj => ?_)), fun z => absurd (nI_le (by omega) (by omega)) z⟩
      by_cases q : j < 5 + sp_n k1
      · exact hd j (by omega)
      · rw [rg_tail (by omega), rg_tail (by omega)]
    | succ t ih =>
      intro i hi hn hd
      refine x_RM_compareRow_61 K hr ?_
      obtain ⟨e1, l1⟩ := vl_at h1 ha (show 5 + i < 5 + sp_n k1 by omega)
      obtain ⟨e2, l2⟩ := vl_at h2 hb (show 5 + i < 5 + sp_n k2 by omega)
      rw [Nat.zero_add] at e2
      have x5 : ((((12 : Int32) * nI z) + (5 : Int32)) + nI i) = nI (12 * z + (5 + i)) := by
        have h := x12 z 5
        have h' : ((12 : Int32) * nI z) + (5 : Int32) = nI (12 * z + 5) := h
        rw [h', nI_add, Nat.add_assoc]
      rw [xc4, show b 4 = nI (sp_n k2) from by have := hb.2.1; rwa [Nat.zero_add] at this, x5, xa5, nI_clamp (by omega), nI_clamp (by omega), e1, e2]
      have hin1 : vp_in (nI (12 * z + (5 + i))) 98304 := vp_in_nI (by omega) (by decide)
      have hin2 : vp_in (nI (5 + i)) 12 := vp_in_nI (by omega) (by decide)
      refine ⟨fun z => absurd z (nI_ge (by omega) (by omega)), fun _ => ⟨hin1, hin2, fun z => ?_, fun z => ⟨hin1, hin2, fin (5 + i) (by omega) (by omega) hd z⟩⟩⟩
      rw [nI_1]
      exact ih (i + 1) (by omega) hn (fun j hj => nxt (5 + i) (by omega) (by omega) hd z j (by omega))
  have key : ∀ (t i : Nat), i + t = 5 → (∀ j, j < i → rg k1 j = rg k2 j) → AW X 2 [some (aR 0), some (aI (nI z)), some (aI (nI i))] [] [cRM th xN rm xS xK xU nu sz go st ol sk an bw sm at9, c1, c2, c3, c4, c5, c6, c7, c8, iC 98304 ro, c10, c11, c12, c13, c14, c15, c16, c17, iC 12 b] 0 0 := by
    intro t
    induction t with
    | zero =>
      intro i hi hd
      have e5 : i = 5 := by omega
      subst e5
      refine x_RM_compareRow_2 K hr ⟨fun _ => ?_, fun z => absurd (Int32.le_refl _) z⟩
      have hn := hd 4 (by omega)
      rw [rg_n4, rg_n4] at hn
      exact key2 (sp_n k2) 0 (by omega) hn hd
    | succ t ih =>
      intro i hi hd
      obtain ⟨e1, l1⟩ := vl_at h1 ha (show i < 5 + sp_n k1 by omega)
      obtain ⟨e2, l2⟩ := vl_at h2 hb (show i < 5 + sp_n k2 by omega)
      rw [Nat.zero_add] at e2
      refine x_RM_compareRow_2 K hr ?_
      have hin1 : vp_in (nI (12 * z + i)) 98304 := vp_in_nI (by omega) (by decide)
      have hin2 : vp_in (nI i) 12 := vp_in_nI (by omega) (by decide)
      rw [x12, nI_clamp (by omega), nI_clamp (by omega), e1, e2]
      refine ⟨fun z => absurd z (nI_ge (a := i) (b := 5) (by omega) (by decide)), fun _ => ⟨hin1, hin2, fun z => ?_, fun z => ⟨hin1, hin2, fin i (by omega) (by omega) hd z⟩⟩⟩
      rw [nI_1]
      exact ih (i + 1) (by omega) (nxt i (by omega) (by omega) hd z)
  refine x_RM_compareRow_0 K hr ?_
  exact key 5 0 rfl (fun j hj => by omega)
def sp_RM_number : am_S := fun av w post => ∃ (N p : Nat) (th rm xS xK xU nu sz go st ol sk an bw sm at9 : Int32) (nm nx ot : Nat → Int32) (g sv : Nat → Nat) (cs : List Nat), av = [aR 0, aI (nI p)] ∧ w.length = 19 ∧ w[0]? = some (cRM th (nI N) rm xS xK xU nu sz go st ol sk an bw sm at9) ∧ w[8]? = some (iC 96 nm) ∧ w[16]? = some (iC 12 nx) ∧ w[17]? = some (iC 12 ot) ∧ (N ≤ 4) ∧ (p < 24) ∧ (∀ i, i < N → nm (4 * p + i) = nI (g i) ∧ g i < N) ∧ (∀ i, i < N → nx i = nI (sv i)) ∧ (nx 4 = nI cs.length) ∧ (ar_is nx 5 cs) ∧ (cs.length ≤ 7) ∧ (sp_vc N cs) ∧ (∀ ot' : Nat → Int32, (∀ j, j < 4 → ot' j = nI (sp_dS sv g N j)) → ot' 4 = nI cs.length → ar_is ot' 5 (mt_sort (cs.map (sp_ren g))) → post none (w.set 17 (iC 12 ot')))
set_option maxRecDepth 20000 in
set_option maxHeartbeats 2000000 in
theorem c_RM_number : Con y_RM_number b_RM_number 4 none 1 0 0 false sp_RM_number := by
  refine Con.of (by decide) (fun av w post h => by obtain ⟨N, p, th, rm, xS, xK, xU, nu, sz, go, st, ol, sk, an, bw, sm, at9, nm, nx, ot, g, sv, cs, rfl, -⟩ := h; exact Nat.le_of_ble_eq_true rfl) ?_
  intro X K hnm av w post h hr _
  obtain ⟨N, p, th, rm, xS, xK, xU, nu, sz, go, st, ol, sk, an, bw, sm, at9, nm, nx, ot, g, sv, cs, rfl, hlen, hc0, hc8, hc16, hc17, hN4, hp24, hnm, hst, h4, hcs, h7, hvc, hp⟩ := h
  obtain ⟨c0, c1, c2, c3, c4, c5, c6, c7, c8, c9, c10, c11, c12, c13, c14, c15, c16, c17, c18, rfl⟩ := len19 hlen
  obtain rfl : c0 = _ := Option.some.inj hc0
  obtain rfl : c8 = _ := Option.some.inj hc8
  obtain rfl : c16 = _ := Option.some.inj hc16
  obtain rfl : c17 = _ := Option.some.inj hc17
  have hg4 : ∀ i, i < N → g i < 4 := fun i hi => by have := (hnm i hi).2; omega
  have hren : ∀ c, c ∈ cs → sp_ren g c < 96 := by
    intro c hc
    obtain ⟨q1, q2, q3⟩ := hvc c hc
    have a1 := hg4 _ q2
    have a2 := hg4 _ q3
    unfold sp_ren
    omega
  have k59 : ∀ (t i : Nat) (b : Nat → Int32), i + t = cs.length → (∀ j, j < 4 → b j = nI (sp_dS sv g N j)) → b 4 = nI i → ar_is b 5 (mt_sort ((cs.take i).map (sp_ren g))) → AW X 59 [some (aR 0), some (aI (nI p)), some (aI (nI i)), none] [] [cRM th (nI N) rm xS xK xU nu sz go st ol sk an bw sm at9, c1, c2, c3, c4, c5, c6, c7, iC 96 nm, c9, c10, c11, c12, c13, c14, c15, iC 12 nx, iC 12 b, c18] 0 0 := by
    intro t
    induction t with
    | zero =>
      intro i b hi h1 h2 h3
      refine x_RM_number_59 K hr c_RM_add_17 (by decide) ?_
      rw [xc4, h4]
      refine ⟨fun _ => ?_, fun z => absurd (nI_le (by omega) (by omega)) z⟩
      have e : i = cs.length := by omega
      rw [e] at h2 h3
      rw [List.take_length] at h3
      exact hp b h1 h2 h3
    | succ t ih =>
      intro i b hi h1 h2 h3
      have hlt : i < cs.length := by omega
      have hgi : cs[i]? = some cs[i] := List.getElem?_eq_getElem hlt
      obtain ⟨q1, q2, q3⟩ := hvc _ (List.getElem_mem hlt)
      have ec : nx (5 + i) = nI cs[i] := hcs i _ hgi
      refine x_RM_number_59 K hr c_RM_add_17 (by decide) ?_
      rw [xc4, h4, xa5, nI_clamp (n := 5 + i) (by omega), ec, xq4 q1, xr4 q1, xd16 q1, x4, x4, nI_clamp (by omega), nI_clamp (by omega), (hnm _ q2).1, (hnm _ q3).1, xren]
      refine ⟨fun z => absurd z (nI_ge (by omega) (by omega)), fun _ => ⟨vp_in_nI (by omega) (by decide), vp_in_nI (by omega) (by decide), vp_in_nI (by omega) (by decide), ?_⟩⟩
      have hlen : (mt_sort ((cs.take i).map (sp_ren g))).length = i := by rw [mt_sort_len, List.length_map, List.length_take]; omega
      refine ⟨sp_ren g cs[i], mt_sort ((cs.take i).map (sp_ren g)), b, rfl, rfl, rfl, by rw [hlen]; exact h2, h3, mt_sort_sd _, by omega, fun x hx => ?_, hren _ (List.getElem_mem hlt), fun a' g1 g2 g3 => ?_⟩
      · have hx1 := (mt_sort_p _).mem_iff.mp hx
        obtain ⟨c0, hc0, rfl⟩ := List.mem_map.mp hx1
        exact hren c0 (List.mem_of_mem_take hc0)
      · refine x_RM_number_123 K hr ?_
        rw [nI_1]
        refine ih (i + 1) a' (by omega) (fun j hj => by rw [g1 j hj]; exact h1 j hj) (by rw [g2, hlen]) ?_
        rw [List.take_add_one, hgi]
        show ar_is a' 5 (mt_sort ((cs.take i ++ [cs[i]]).map (sp_ren g)))
        rw [List.map_append]
        show ar_is a' 5 (mt_sort ((cs.take i).map (sp_ren g) ++ [sp_ren g cs[i]]))
        rw [mt_sort_app]
        exact g3
  have k22 : ∀ (t i : Nat) (b : Nat → Int32), i + t = N → (∀ j, j < 4 → b j = nI (sp_dS sv g i j)) → b 4 = 0 → AW X 22 [some (aR 0), some (aI (nI p)), some (aI (nI i)), none] [] [cRM th (nI N) rm xS xK xU nu sz go st ol sk an bw sm at9, c1, c2, c3, c4, c5, c6, c7, iC 96 nm, c9, c10, c11, c12, c13, c14, c15, iC 12 nx, iC 12 b, c18] 0 0 := by
    intro t
    induction t with
    | zero =>
      intro i b hi h1 h2
      have e : i = N := by omega
      subst e
      refine x_RM_number_22 K hr ⟨fun _ => ?_, fun z => absurd (Int32.le_refl _) z⟩
      exact k59 cs.length 0 b (by omega) h1 h2 (fun j c hj => by simp [mt_sort] at hj)
    | succ t ih =>
      intro i b hi h1 h2
      obtain ⟨e1, l1⟩ := hnm i (by omega)
      refine x_RM_number_22 K hr ⟨fun z => absurd z (nI_ge (by omega) (by omega)), fun _ => ?_⟩
      rw [x4, nI_clamp (n := 4 * p + i) (by omega), e1, nI_clamp (n := g i) (by omega), nI_clamp (n := i) (by omega), hst i (by omega)]
      refine ⟨vp_in_nI (by omega) (by decide), vp_in_nI (by omega) (by decide), vp_in_nI (by omega) (by decide), ?_⟩
      rw [nI_1]
      refine ih (i + 1) _ (by omega) (fun j hj => ?_) (by rw [pk_un (by omega)]; exact h2)
      show upd b (g i) (nI (sv i)) j = nI (if j = g i then sv i else sp_dS sv g i j)
      by_cases e : j = g i
      · rw [if_pos e, e, pk_us]
      · rw [if_neg e, pk_un e]; exact h1 j hj
  have k2 : ∀ (t i : Nat) (b : Nat → Int32), i + t = 5 → (∀ j, j < i → b j = 0) → AW X 2 [some (aR 0), some (aI (nI p)), some (aI (nI i)), none] [] [cRM th (nI N) rm xS xK xU nu sz go st ol sk an bw sm at9, c1, c2, c3, c4, c5, c6, c7, iC 96 nm, c9, c10, c11, c12, c13, c14, c15, iC 12 nx, iC 12 b, c18] 0 0 := by
    intro t
    induction t with
    | zero =>
      intro i b hi h1
      have e : i = 5 := by omega
      subst e
      refine x_RM_number_2 K hr ⟨fun _ => ?_, fun z => absurd (Int32.le_refl _) z⟩
      exact k22 N 0 b (by omega) (fun j hj => h1 j (by omega)) (h1 4 (by omega))
    | succ t ih =>
      intro i b hi h1
      refine x_RM_number_2 K hr ⟨fun z => absurd z (nI_ge (a := i) (b := 5) (by omega) (by decide)), fun _ => ⟨vp_in_nI (by omega) (by decide), ?_⟩⟩
      rw [nI_clamp (by omega), nI_1]
      refine ih (i + 1) _ (by omega) (fun j hj => ?_)
      by_cases e : j = i
      · rw [e, pk_us]
      · rw [pk_un e]; exact h1 j (by omega)
  refine x_RM_number_0 K hr ?_
  exact k2 5 0 ot rfl (fun j hj => by omega)

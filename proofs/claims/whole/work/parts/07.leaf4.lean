/-! ===== CONTRACTS: Draft.codesBy, Draft.settle ===== -/
theorem bt_m16 : ∀ c, c < 96 → nI c &&& (-16) = nI (c / 16 * 16) := by decide +kernel
theorem bt_s2 : ∀ c, c < 96 → (nI c >>> ((2 : Int32) &&& 31)) &&& 3 = nI (c / 4 % 4) := by decide +kernel
theorem bt_ren {q c : Nat} (hq : q < 65536) (hc : c < 96) : ((nI c &&& (-16 : Int32)) + ((4 : Int32) * ((nI q >>> (((4 : Int32) * ((nI c >>> ((2 : Int32) &&& 31)) &&& (3 : Int32))) &&& 31)) &&& (3 : Int32)))) + ((nI q >>> (((4 : Int32) * (nI c &&& (3 : Int32))) &&& 31)) &&& (3 : Int32)) = nI (sp_ren (sp_cn q) c) := by
  have e1 : nI c &&& (3 : Int32) = nI (c % 4) := nI_and c 2 (by omega) (by decide)
  rw [bt_m16 c hc, bt_s2 c hc, e1, bt_cn hq (Nat.mod_lt _ (by omega)), bt_cn hq (Nat.mod_lt _ (by omega)), show (4 : Int32) * nI (sp_cn q (c / 4 % 4)) = nI (4 * sp_cn q (c / 4 % 4)) from pk_mul 4 _, nI_add, nI_add]
  rfl
theorem sp_cn_lt (q i : Nat) : sp_cn q i < 4 := Nat.mod_lt _ (by omega)
def sp_Dr_codesBy : am_S := fun av w post => ∃ (q : Nat) (vn vu vy : Int32) (fo : Int64) (vc so : Nat → Int32) (cs : List Nat), av = [aR 22, aI (nI q)] ∧ w.length = 26 ∧ w[22]? = some (cDv vn vu (nI cs.length) fo vy) ∧ w[24]? = some (iC 7 vc) ∧ w[25]? = some (iC 7 so) ∧ (q < 65536) ∧ (ar_is vc 0 cs) ∧ (cs.length ≤ 7) ∧ (∀ c ∈ cs, c < 96) ∧ (∀ so' : Nat → Int32, post (some (aL (lN (sp_k7 (mt_sort (cs.map (sp_ren (sp_cn q)))) 7)))) (w.set 25 (iC 7 so')))
set_option maxRecDepth 20000 in
set_option maxHeartbeats 2000000 in
theorem c_Dr_codesBy : Con y_Dr_codesBy b_Dr_codesBy 8 (some .long) 0 0 0 false sp_Dr_codesBy := by
  refine Con.of (by decide) (fun av w post h => by obtain ⟨q, vn, vu, vy, fo, vc, so, cs, rfl, -⟩ := h; exact Nat.le_of_ble_eq_true rfl) ?_
  intro X K hnm av w post h hr _
  obtain ⟨q, vn, vu, vy, fo, vc, so, cs, rfl, hlen, hc22, hc24, hc25, hq, hc, h7, h96, hp⟩ := h
  obtain ⟨c0, c1, c2, c3, c4, c5, c6, c7, c8, c9, c10, c11, c12, c13, c14, c15, c16, c17, c18, c19, c20, c21, c22, c23, c24, c25, rfl⟩ := len26 hlen
  obtain rfl : c22 = _ := Option.some.inj hc22
  obtain rfl : c24 = _ := Option.some.inj hc24
  obtain rfl : c25 = _ := Option.some.inj hc25
  refine x_Dr_codesBy_0 K hr ?_
  have hcs : ∀ i c, cs[i]? = some c → c < 96 := fun i c h => h96 c (List.mem_of_getElem? h)
  have hmem : ∀ (l : List Nat), (∀ c ∈ l, c < 96) → ∀ c ∈ mt_sort (l.map (sp_ren (sp_cn q))), c < 96 := by
    intro l hl c h
    obtain ⟨c0, h2, rfl⟩ := List.mem_map.mp ((mt_sort_p _).mem_iff.mp h)
    exact sp_ren_lt (fun i _ => sp_cn_lt q i) (hl c0 h2)
  have hlen : (mt_sort (cs.map (sp_ren (sp_cn q)))).length = cs.length := by rw [mt_sort_len, List.length_map]
  -- the packing loop
  have key3 : ∀ (t j : Nat) (a : Nat → Int32), j + t = cs.length → ar_is a 0 (mt_sort (cs.map (sp_ren (sp_cn q)))) → AW X 119 [some (aR 22), none, some (aL (lN (sp_k7 (mt_sort (cs.map (sp_ren (sp_cn q)))) j))), none, some (aI (nI j)), none, none, none] [] [c0, c1, c2, c3, c4, c5, c6, c7, c8, c9, c10, c11, c12, c13, c14, c15, c16, c17, c18, c19, c20, c21, cDv vn vu (nI cs.length) fo vy, c23, iC 7 vc, iC 7 a] 0 0 := by
    intro t
    induction t with
    | zero =>
      intro j a h1 ha
      have e : j = cs.length := by omega
      refine x_Dr_codesBy_119 K hr ⟨fun _ => ?_, fun z => absurd (by rw [e]; exact Int32.le_refl _) z⟩
      have e0 : (7 : Int32) - nI cs.length = nI (7 - cs.length) := pk_sub (a := 7) (by omega)
      have e1 : (7 : Int32) * nI (7 - cs.length) = nI (7 * (7 - cs.length)) := pk_mul 7 _
      have e2 := sp_k7_pad (mt_sort (cs.map (sp_ren (sp_cn q)))) (7 - cs.length)
      rw [hlen, show cs.length + (7 - cs.length) = 7 by omega] at e2
      rw [e0, e1, wb_shl _ (by omega), e, ← e2]
      exact hp a
    | succ t ih =>
      intro j a h1 ha
      refine x_Dr_codesBy_119 K hr ⟨fun z => absurd z (nI_ge (by omega) (by omega)), fun _ => ⟨vp_in_nI (by omega) (by decide), ?_⟩⟩
      obtain ⟨c, hcj⟩ : ∃ c, (mt_sort (cs.map (sp_ren (sp_cn q))))[j]? = some c := ⟨_, List.getElem?_eq_getElem (by omega)⟩
      have hc96 := hmem cs h96 c (List.mem_of_getElem? hcj)
      have ea : a j = nI c := by
        have := ha j c hcj
        rwa [Nat.zero_add] at this
      have hk := sp_k7_lt (hmem cs h96) j
      have hk2 : 128 ^ j ≤ 128 ^ 6 := Nat.pow_le_pow_right (by decide) (by omega)
      have e1 : lN (sp_k7 (mt_sort (cs.map (sp_ren (sp_cn q)))) j) <<< ((7 : Int32).toInt64 &&& 63) = lN (sp_k7 (mt_sort (cs.map (sp_ren (sp_cn q)))) j * 128) := wb_shl _ (k := 7) (by decide)
      have e2 : lN (sp_k7 (mt_sort (cs.map (sp_ren (sp_cn q)))) j * 128) ||| lN (c + 1) = lN (sp_k7 (mt_sort (cs.map (sp_ren (sp_cn q)))) j * 128 + (c + 1)) := g_or (k := 7) (p := 128) (by decide) (by omega) (by omega)
      rw [nI_clamp (by omega), ea, nI_1, nI_l (by omega), e1, e2, ← sp_k7_s hcj, nI_1]
      exact ih (j + 1) a (by omega) ha
  -- the sorting loops
  have key2 : ∀ (t i : Nat) (a : Nat → Int32), i + t = cs.length → ar_is a 0 (mt_sort ((cs.take i).map (sp_ren (sp_cn q)))) → AW X 2 [some (aR 22), some (aI (nI q)), some (aI (nI i)), none, none, none, none, none] [] [c0, c1, c2, c3, c4, c5, c6, c7, c8, c9, c10, c11, c12, c13, c14, c15, c16, c17, c18, c19, c20, c21, cDv vn vu (nI cs.length) fo vy, c23, iC 7 vc, iC 7 a] 0 0 := by
    intro t
    induction t with
    | zero =>
      intro i a h1 ha
      have e : i = cs.length := by omega
      refine x_Dr_codesBy_2 K hr ⟨fun _ => ?_, fun z => absurd (by rw [e]; exact Int32.le_refl _) z⟩
      rw [e, List.take_of_length_le (Nat.le_refl _)] at ha
      exact key3 cs.length 0 a (by omega) ha
    | succ t ih =>
      intro i a h1 ha
      refine x_Dr_codesBy_2 K hr ⟨fun z => absurd z (nI_ge (by omega) (by omega)), fun _ => ⟨vp_in_nI (by omega) (by decide), ?_⟩⟩
      obtain ⟨c, hci⟩ : ∃ c, cs[i]? = some c := ⟨_, List.getElem?_eq_getElem (by omega)⟩
      have ev : vc i = nI c := by
        have := hc i c hci
        rwa [Nat.zero_add] at this
      rw [nI_clamp (by omega), ev, bt_ren hq (hcs i c hci)]
      obtain ⟨L, hL⟩ : ∃ L, L = mt_sort ((cs.take i).map (sp_ren (sp_cn q))) := ⟨_, rfl⟩
      have hLlen : L.length = i := by
        rw [hL, mt_sort_len, List.length_map, List.length_take]
        omega
      have hLsd : mt_sd L := by rw [hL]; exact mt_sort_sd _
      have hL96 : ∀ j x, L[j]? = some x → x < 96 := fun j x h => hmem (cs.take i) (fun c h => h96 c (List.mem_of_mem_take h)) x (by rw [← hL]; exact List.mem_of_getElem? h)
      rw [← hL] at ha
      have hx96 : sp_ren (sp_cn q) c < 96 := sp_ren_lt (fun i _ => sp_cn_lt q i) (hcs i c hci)
      generalize hxe : sp_ren (sp_cn q) c = x at hx96
      have fin : ∀ a' : Nat → Int32, ar_is a' 0 (mt_ins x L) → AW X 2 [some (aR 22), some (aI (nI q)), some (aI (nI i + 1)), none, none, none, none, none] [] [c0, c1, c2, c3, c4, c5, c6, c7, c8, c9, c10, c11, c12, c13, c14, c15, c16, c17, c18, c19, c20, c21, cDv vn vu (nI cs.length) fo vy, c23, iC 7 vc, iC 7 a'] 0 0 := by
        intro a' ha'
        rw [nI_1]
        refine ih (i + 1) a' (by omega) ?_
        rw [List.take_succ, hci]
        simp only [Option.toList, List.map_append, List.map_cons, List.map_nil]
        rw [mt_sort_app, hxe, ← hL]
        exact ha'
      have inner : ∀ (k : Nat) (b : Nat → Int32), k ≤ i → (∀ j, j < k → b j = a j) → (∀ j, k ≤ j → j < i → b (j + 1) = a j) → (∀ j c, k ≤ j → L[j]? = some c → x < c) → AW X 58 [some (aR 22), some (aI (nI q)), some (aI (nI i)), none, none, none, some (aI (nI x)), some (aI (nI k))] [] [c0, c1, c2, c3, c4, c5, c6, c7, c8, c9, c10, c11, c12, c13, c14, c15, c16, c17, c18, c19, c20, c21, cDv vn vu (nI cs.length) fo vy, c23, iC 7 vc, iC 7 b] 0 0 := by
        intro k
        induction k with
        | zero =>
          intro b _ h2 h3 h4
          refine x_Dr_codesBy_58 K hr ⟨fun _ => ⟨vp_in_nI (n := 0) (by omega) (by decide), ?_⟩, fun z => absurd (by decide) z⟩
          refine fin _ ?_
          have := ar_ins (o := 0) (k := 0) (x := x) (a := b) ha hLsd (Nat.zero_le _) (fun j hj => absurd hj (by omega)) (fun j _ hj => by rw [Nat.zero_add]; exact h3 j (Nat.zero_le _) (by omega)) h4 (fun c hc => absurd hc (by omega))
          exact this
        | succ k ihk =>
          intro b hk h2 h3 h4
          have e1 : nI (k + 1) - 1 = nI k := nI_pred k
          obtain ⟨y, hy⟩ : ∃ y, L[k]? = some y := ⟨_, List.getElem?_eq_getElem (by omega)⟩
          have hy96 := hL96 k y hy
          have eb : b k = nI y := by
            rw [h2 k (by omega)]
            have := ha k y hy
            rwa [Nat.zero_add] at this
          refine x_Dr_codesBy_58 K hr ⟨fun z => absurd z (nI_nle (by omega) (by omega)), fun _ => ?_⟩
          rw [e1, nI_clamp (by omega), nI_clamp (by omega), eb]
          refine ⟨vp_in_nI (by omega) (by decide), fun z => ⟨vp_in_nI (by omega) (by decide), ?_⟩, fun z => ⟨vp_in_nI (by omega) (by decide), vp_in_nI (by omega) (by decide), ?_⟩⟩
          · have hyx : y ≤ x := (nI_leI (by omega) (by omega)).mp z
            refine fin _ ?_
            have := ar_ins (o := 0) (k := k + 1) (x := x) (a := b) ha hLsd (by omega) (fun j hj => by rw [Nat.zero_add]; exact h2 j hj) (fun j hj1 hj2 => by rw [Nat.zero_add]; exact h3 j hj1 (by omega)) h4 (fun c _ hc => by
              rw [Nat.add_sub_cancel, hy] at hc
              cases hc
              exact hyx)
            rw [Nat.zero_add] at this
            exact this
          · have hxy : x < y := by
              rcases Nat.lt_or_ge x y with h | h
              · exact h
              · exact absurd ((nI_leI (by omega) (by omega)).mpr h) z
            rw [pk_m1]
            refine ihk _ (by omega) (fun j hj => ?_) (fun j hj1 hj2 => ?_) (fun j c hj1 hj2 => ?_)
            · unfold upd; rw [if_neg (by omega)]; exact h2 j (by omega)
            · unfold upd
              by_cases e : j = k
              · subst e; rw [if_pos rfl, ← eb]; exact h2 j (by omega)
              · rw [if_neg (by omega)]; exact h3 j (by omega) hj2
            · by_cases e : j = k
              · subst e; rw [hy] at hj2; cases hj2; exact hxy
              · exact h4 j c (by omega) hj2
      exact inner i a (Nat.le_refl _) (fun _ _ => rfl) (fun j h1 h2 => absurd h2 (by omega)) (fun j c h1 h2 => by
        have := (List.getElem?_eq_some_iff.mp h2).1
        omega)
  exact key2 cs.length 0 so (by omega) (fun j c h => by simp [mt_sort] at h)
def sp_fc (N : Nat) : Nat := if N = 1 then 1 else if N = 2 then 2 else if N = 3 then 6 else 24
theorem num_inj : ∀ N, N < 5 → ∀ k, k < sp_fc N → ∀ i, i < N → ∀ j, j < N → sp_cn (am_numL.getD k 0) i = sp_cn (am_numL.getD k 0) j → i = j := by decide +kernel
theorem num_lt : ∀ k, k < 24 → am_numL.getD k 0 < 65536 := by decide +kernel
theorem sp_fc_le (N : Nat) : sp_fc N ≤ 24 := by
  unfold sp_fc
  repeat' split
  all_goals omega
/-- the class's keys: under its own numberings, in their order -/
def sp_ck (N : Nat) (st : Nat → Nat) (cs : List Nat) : List Nat := (am_numL.take (sp_fc N)).map (fun q => sp_key N st cs (sp_cn q))
theorem sp_ck_len (N : Nat) (st : Nat → Nat) (cs : List Nat) : (sp_ck N st cs).length = sp_fc N := by
  unfold sp_ck
  have h := sp_fc_le N
  have e : am_numL.length = 24 := rfl
  rw [List.length_map, List.length_take, e]
  omega
theorem sp_ck_at {N : Nat} {st : Nat → Nat} {cs : List Nat} {i : Nat} (h : i < sp_fc N) : (sp_ck N st cs)[i]? = some (sp_key N st cs (sp_cn (am_numL.getD i 0))) := by
  have h24 := sp_fc_le N
  have e : am_numL.length = 24 := rfl
  unfold sp_ck
  rw [List.getElem?_map, List.getElem?_take_of_lt h, List.getElem?_eq_getElem (by omega)]
  simp [List.getD, List.getElem?_eq_getElem (show i < am_numL.length by omega)]
def sp_Dr_settle : am_S := fun av w post => ∃ (N : Nat) (vy : Int32) (fo : Int64) (vs vc so : Nat → Int32) (st : Nat → Nat) (cs : List Nat), av = [aR 22] ∧ w.length = 26 ∧ w[22]? = some (cDv (nI N) (nI (sp_fc N)) (nI cs.length) fo vy) ∧ w[23]? = some (iC 4 vs) ∧ w[24]? = some (iC 7 vc) ∧ w[25]? = some (iC 7 so) ∧ (N ≤ 4) ∧ (∀ i, i < N → vs i = nI (st i) ∧ st i < 8) ∧ (ar_is vc 0 cs) ∧ (cs.length ≤ 7) ∧ (∀ c ∈ cs, c < 96) ∧ (∀ so' : Nat → Int32, post none ((w.set 25 (iC 7 so')).set 22 (cDv (nI N) (nI (sp_fc N)) (nI cs.length) (lN (mt_best sp_M (sp_ck N st cs))) (nI (mt_cnt sp_M (sp_ck N st cs))))))
set_option maxRecDepth 20000 in
set_option maxHeartbeats 2000000 in
theorem c_Dr_settle : Con y_Dr_settle b_Dr_settle 6 none 1 0 0 false sp_Dr_settle := by
  refine Con.of (by decide) (fun av w post h => by obtain ⟨N, vy, fo, vs, vc, so, st, cs, rfl, -⟩ := h; exact Nat.le_of_ble_eq_true rfl) ?_
  intro X K hnm av w post h hr _
  obtain ⟨N, vy, fo, vs, vc, so, st, cs, rfl, hlen, hc22, hc23, hc24, hc25, h4, hst, hc, h7, h96, hp⟩ := h
  obtain ⟨c0, c1, c2, c3, c4, c5, c6, c7, c8, c9, c10, c11, c12, c13, c14, c15, c16, c17, c18, c19, c20, c21, c22, c23, c24, c25, rfl⟩ := len26 hlen
  obtain rfl : c22 = _ := Option.some.inj hc22
  obtain rfl : c23 = _ := Option.some.inj hc23
  obtain rfl : c24 = _ := Option.some.inj hc24
  obtain rfl : c25 = _ := Option.some.inj hc25
  refine x_Dr_settle_0 K hr ?_
  have h24 := sp_fc_le N
  have key : ∀ (t i : Nat) (a : Nat → Int32), i + t = sp_fc N → AW X 14 [some (aR 22), some (aI (nI i)), none, none, none, none] [] [c0, c1, c2, c3, c4, c5, c6, c7, c8, c9, c10, c11, c12, c13, c14, c15, c16, c17, c18, c19, c20, c21, cDv (nI N) (nI (sp_fc N)) (nI cs.length) (lN (mt_best sp_M ((sp_ck N st cs).take i))) (nI (mt_cnt sp_M ((sp_ck N st cs).take i))), iC 4 vs, iC 7 vc, iC 7 a] 0 0 := by
    intro t
    induction t with
    | zero =>
      intro i a h1
      have e : i = sp_fc N := by omega
      refine x_Dr_settle_14 K hr c_Dr_statesBy (by decide) ⟨fun _ => ?_, fun z => absurd (by rw [e]; exact Int32.le_refl _) z⟩
      rw [List.take_of_length_le (by rw [sp_ck_len]; omega)]
      exact hp a
    | succ t ih =>
      intro i a h1
      have hq := num_lt i (by omega)
      have ek := sp_ck_at (N := N) (st := st) (cs := cs) (i := i) (by omega)
      have etk : (sp_ck N st cs).take (i + 1) = (sp_ck N st cs).take i ++ [sp_key N st cs (sp_cn (am_numL.getD i 0))] := by
        rw [List.take_succ, ek]
        rfl
      have ih' := fun a => ih (i + 1) a (by omega)
      rw [etk] at ih'
      have hsplit := sp_key_split N st cs (sp_cn (am_numL.getD i 0))
      have hk7 := sp_k7_lt (l := mt_sort (cs.map (sp_ren (sp_cn (am_numL.getD i 0))))) (fun c h => by
        obtain ⟨c0, h2, rfl⟩ := List.mem_map.mp ((mt_sort_p _).mem_iff.mp h)
        exact sp_ren_lt (fun i _ => sp_cn_lt _ i) (h96 c0 h2)) 7
      have hkey := sp_key_lt (N := N) (st := st) (g := sp_cn (am_numL.getD i 0)) (cs := cs) (fun j hj => (hst j hj).2) (fun j _ => sp_cn_lt _ j) h96
      have hk4 := sp_k4_lt (sp_dS_lt (st := st) (g := sp_cn (am_numL.getD i 0)) (N := N) (fun j hj => (hst j hj).2))
      obtain ⟨T, hT⟩ : ∃ T, T = (sp_ck N st cs).take i := ⟨_, rfl⟩
      rw [← hT] at ih' ⊢
      have hM : mt_best sp_M T ≤ sp_M := (mt_best_le _ _).1
      have hM2 : sp_M = 9223372036854775807 := rfl
      have hS : mt_cnt sp_M T ≤ 24 := by
        unfold mt_cnt
        refine Nat.le_trans List.count_le_length ?_
        rw [hT, List.length_take]
        omega
      have e128 : (128 : Nat) ^ 7 = 2 ^ 49 := by decide
      rw [e128] at hk7
      refine x_Dr_settle_14 K hr c_Dr_statesBy (by decide) ⟨fun z => absurd z (nI_ge (by omega) (by omega)), fun _ => ⟨vp_in_nI (by omega) (by decide), ?_⟩⟩
      rw [nI_clamp (by omega)]
      refine ⟨am_numL.getD i 0, N, _, _, _, _, vs, st, rfl, rfl, rfl, rfl, hq, h4, hst, fun x y hx hy => num_inj N (by omega) i (by omega) x hx y hy, ?_⟩
      have eshr : ((lN (mt_best sp_M T)).toUInt64 >>> ((49 : Int32).toInt64.toUInt64 &&& Int64.toUInt64 63)).toInt64 = lN (mt_best sp_M T / 2 ^ 49) := wb_shr (k := 49) (by omega) (by decide)
      generalize hke : sp_key N st cs (sp_cn (am_numL.getD i 0)) = kk at *
      generalize hk4e : sp_k4 (sp_dS st (sp_cn (am_numL.getD i 0)) N) = k4 at *
      refine x_Dr_settle_31 K hr c_Dr_codesBy (by decide) ⟨fun z => ⟨vp_in_nI (by omega) (by decide), ?_⟩, fun z => ?_⟩
      · rw [nI_clamp (by omega)]
        refine ⟨am_numL.getD i 0, _, _, _, _, vc, a, cs, rfl, rfl, rfl, rfl, rfl, hq, hc, h7, h96, fun so' => ?_⟩
        generalize sp_k7 (mt_sort (cs.map (sp_ren (sp_cn (am_numL.getD i 0))))) 7 = k7 at *
        have ec : (lN k4 <<< ((49 : Int32).toInt64 &&& 63)) ||| lN k7 = lN kk := by
          have e1 : lN k4 <<< ((49 : Int32).toInt64 &&& 63) = lN (k4 * 2 ^ 49) := wb_shl k4 (k := 49) (by decide)
          rw [e1, g_or (k := 49) (p := 2 ^ 49) rfl hk7 (by omega), hsplit]
        refine x_Dr_settle_60 K hr ⟨fun z2 => ?_, fun z2 => ?_⟩
        · rw [ec] at z2 ⊢
          have hle : mt_best sp_M T ≤ kk := (pk_lLE (by omega) (by omega)).mp ((lg_cmp_ge _ _).mp z2)
          refine x_Dr_settle_84 K hr ⟨fun z3 => ?_, fun z3 => ?_⟩
          · have hne : ¬ kk = mt_best sp_M T := fun e => z3 ((lg_cmp_eq _ _).mpr (by rw [e]))
            have h9 := ih' so'
            rw [mt_best_app, if_neg (by omega), mt_cnt_app_gt (by omega)] at h9
            rw [nI_1]
            exact h9
          · have heq : kk = mt_best sp_M T := (pk_lEQ (by omega) (by omega)).mp ((lg_cmp_eq _ _).mp z3)
            have h9 := ih' so'
            rw [mt_best_app, if_neg (by omega), mt_cnt_app_eq heq] at h9
            rw [nI_1, nI_1]
            exact h9
        · rw [ec] at z2 ⊢
          have hlt : kk < mt_best sp_M T := by
            rcases Nat.lt_or_ge kk (mt_best sp_M T) with h | h
            · exact h
            · exact absurd ((lg_cmp_ge _ _).mpr ((pk_lLE (by omega) (by omega)).mpr h)) z2
          refine x_Dr_settle_84 K hr ⟨fun z3 => absurd ((lg_cmp_eq _ _).mpr rfl) z3, fun _ => ?_⟩
          have h9 := ih' so'
          rw [mt_best_app, if_pos hlt, mt_cnt_app_lt hlt] at h9
          rw [nI_1]
          exact h9
      · have hgt : mt_best sp_M T / 2 ^ 49 < k4 := by
          rcases Nat.lt_or_ge (mt_best sp_M T / 2 ^ 49) k4 with h | h
          · exact h
          · refine absurd ((lg_cmp_le _ _).mpr ?_) z
            rw [eshr]
            exact (pk_lLE (by omega) (by omega)).mpr h
        have hlt : mt_best sp_M T < kk := by omega
        have h9 := ih' a
        rw [mt_best_app, if_neg (by omega), mt_cnt_app_gt hlt] at h9
        rw [nI_1]
        exact h9
  exact key (sp_fc N) 0 so (by omega)

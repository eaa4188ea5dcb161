/-! ===== CONTRACTS: drafts changed, and their forms ===== -/
def sp_Dr_load_18 : am_S := fun av w post => ∃ (f N : Nat) (nu sz sy : Int32) (fo : Int64) (vs vc : Nat → Int32), av = [aR 18, aL (lN f)] ∧ w.length = 26 ∧ w[18]? = some (cDu (nI N) nu sz fo sy) ∧ w[19]? = some (iC 4 vs) ∧ w[20]? = some (iC 7 vc) ∧ (f < 2 ^ 63) ∧ (N ≤ 4) ∧ (∀ vs' vc' : Nat → Int32, (∀ i, i < N → vs' i = nI (sp_st f i)) → ar_is vc' 0 (sp_cs f) → post none (((w.set 19 (iC 4 vs')).set 20 (iC 7 vc')).set 18 (cDu (nI N) nu (nI (sp_n f)) fo sy)))
set_option maxRecDepth 20000 in
set_option maxHeartbeats 2000000 in
theorem c_Dr_load_18 : Con y_Dr_load b_Dr_load 4 none 2 0 0 false sp_Dr_load_18 := by
  refine Con.of (by decide) (fun av w post h => by obtain ⟨f, N, nu, sz, sy, fo, vs, vc, rfl, -⟩ := h; exact Nat.le_of_ble_eq_true rfl) ?_
  intro X K hnm av w post h hr _
  obtain ⟨f, N, nu, sz, sy, fo, vs, vc, rfl, hlen, hc18, hc19, hc20, hf, h4, hp⟩ := h
  obtain ⟨c0, c1, c2, c3, c4, c5, c6, c7, c8, c9, c10, c11, c12, c13, c14, c15, c16, c17, c18, c19, c20, c21, c22, c23, c24, c25, rfl⟩ := len26 hlen
  obtain rfl : c18 = _ := Option.some.inj hc18
  obtain rfl : c19 = _ := Option.some.inj hc19
  obtain rfl : c20 = _ := Option.some.inj hc20
  refine x_Dr_load_18_0 K hr ?_
  have key2 : ∀ (t j : Nat) (vs' vc' : Nat → Int32), j + t = sp_n f → (∀ i, i < N → vs' i = nI (sp_st f i)) → (∀ i, i < j → vc' i = nI (sp_co f i - 1)) → AW X 37 [some (aR 18), some (aL (lN f)), none, some (aI (nI j))] [] [c0, c1, c2, c3, c4, c5, c6, c7, c8, c9, c10, c11, c12, c13, c14, c15, c16, c17, cDu (nI N) nu (nI (sp_n f)) fo sy, iC 4 vs', iC 7 vc', c21, c22, c23, c24, c25] 0 0 := by
    intro t
    induction t with
    | zero =>
      intro j vs' vc' h1 h2 h3
      have e : j = sp_n f := by omega
      subst e
      refine x_Dr_load_18_37 K hr c_SE_codeIn (by decide) ⟨fun _ => ?_, fun q => absurd (Int32.le_refl _) q⟩
      refine hp vs' vc' h2 (fun i c hi => ?_)
      rw [Nat.zero_add]
      unfold sp_cs at hi
      rw [List.getElem?_map] at hi
      by_cases hlt : i < sp_n f
      · rw [List.getElem?_range hlt] at hi
        have e : sp_co f i - 1 = c := by simpa using hi
        rw [h3 i hlt, e]
      · rw [List.getElem?_eq_none (by simpa using hlt)] at hi
        simp at hi
    | succ t ih =>
      intro j vs' vc' h1 h2 h3
      have h7 := sp_n_le f
      refine x_Dr_load_18_37 K hr c_SE_codeIn (by decide) ⟨fun q => absurd q (nI_ge (by omega) (by omega)), fun q => ?_⟩
      refine ⟨f, j, rfl, rfl, hf, by omega, ?_⟩
      refine x_Dr_load_18_55 K hr ⟨vp_in_nI (by omega) (by decide), ?_⟩
      rw [nI_1]
      refine ih (j + 1) vs' _ (by omega) h2 (fun i hi => ?_)
      rw [nI_clamp (by omega)]
      unfold upd
      by_cases e : i = j
      · subst e
        rw [if_pos rfl]
        have hnz := sp_n_nz (k := f) (j := i) (by omega)
        obtain ⟨k, hk⟩ : ∃ k, sp_co f i = k + 1 := ⟨sp_co f i - 1, by omega⟩
        rw [hk, nI_pred]
        rfl
      · rw [if_neg e]
        exact h3 i (by omega)
  have key1 : ∀ (t j : Nat) (vs' : Nat → Int32), j + t = N → (∀ i, i < j → vs' i = nI (sp_st f i)) → AW X 2 [some (aR 18), some (aL (lN f)), none, some (aI (nI j))] [] [c0, c1, c2, c3, c4, c5, c6, c7, c8, c9, c10, c11, c12, c13, c14, c15, c16, c17, cDu (nI N) nu sz fo sy, iC 4 vs', iC 7 vc, c21, c22, c23, c24, c25] 0 0 := by
    intro t
    induction t with
    | zero =>
      intro j vs' h1 h2
      have e : j = N := by omega
      subst e
      refine x_Dr_load_18_2 K hr c_SE_codesIn (by decide) c_SE_stateIn (by decide) ⟨fun _ => ?_, fun q => absurd (Int32.le_refl _) q⟩
      refine ⟨f, rfl, rfl, hf, ?_⟩
      refine x_Dr_load_18_32 K hr ?_
      exact key2 (sp_n f) 0 vs' vc (by omega) h2 (fun i hi => absurd hi (by omega))
    | succ t ih =>
      intro j vs' h1 h2
      refine x_Dr_load_18_2 K hr c_SE_codesIn (by decide) c_SE_stateIn (by decide) ⟨fun q => absurd q (nI_ge (by omega) (by omega)), fun q => ?_⟩
      refine ⟨f, j, rfl, rfl, hf, by omega, ?_⟩
      refine x_Dr_load_18_20 K hr ⟨vp_in_nI (by omega) (by decide), ?_⟩
      rw [nI_1]
      refine ih (j + 1) _ (by omega) (fun i hi => ?_)
      rw [nI_clamp (by omega)]
      unfold upd
      by_cases e : i = j
      · subst e
        rw [if_pos rfl]
      · rw [if_neg e]
        exact h2 i (by omega)
  exact key1 N 0 vs (by omega) (fun i hi => absurd hi (by omega))
def sp_Dr_copyOf : am_S := fun av w post => ∃ (un uu us0 uy vn vu vz vy : Int32) (uf vf : Int64) (us uc vs vc : Nat → Int32), av = [aR 22, aR 18] ∧ w.length = 26 ∧ w[18]? = some (cDu un uu us0 uf uy) ∧ w[19]? = some (iC 4 us) ∧ w[20]? = some (iC 7 uc) ∧ w[22]? = some (cDv vn vu vz vf vy) ∧ w[23]? = some (iC 4 vs) ∧ w[24]? = some (iC 7 vc) ∧ (∀ vs' vc' : Nat → Int32, (∀ j, j < 4 → vs' j = us j) → (∀ j, j < 7 → vc' j = uc j) → post none (((w.set 23 (iC 4 vs')).set 24 (iC 7 vc')).set 22 (cDv vn vu us0 vf vy)))
set_option maxRecDepth 20000 in
set_option maxHeartbeats 2000000 in
theorem c_Dr_copyOf : Con y_Dr_copyOf b_Dr_copyOf 2 none 1 0 0 false sp_Dr_copyOf := by
  refine Con.of (by decide) (fun av w post h => by obtain ⟨un, uu, us0, uy, vn, vu, vz, vy, uf, vf, us, uc, vs, vc, rfl, -⟩ := h; exact Nat.le_of_ble_eq_true rfl) ?_
  intro X K hnm av w post h hr _
  obtain ⟨un, uu, us0, uy, vn, vu, vz, vy, uf, vf, us, uc, vs, vc, rfl, hlen, hc18, hc19, hc20, hc22, hc23, hc24, hp⟩ := h
  obtain ⟨c0, c1, c2, c3, c4, c5, c6, c7, c8, c9, c10, c11, c12, c13, c14, c15, c16, c17, c18, c19, c20, c21, c22, c23, c24, c25, rfl⟩ := len26 hlen
  obtain rfl : c18 = _ := Option.some.inj hc18
  obtain rfl : c19 = _ := Option.some.inj hc19
  obtain rfl : c20 = _ := Option.some.inj hc20
  obtain rfl : c22 = _ := Option.some.inj hc22
  obtain rfl : c23 = _ := Option.some.inj hc23
  obtain rfl : c24 = _ := Option.some.inj hc24
  refine x_Dr_copyOf_0 K hr (by decide) ?_
  refine hp _ _ (fun j hj => ?_) (fun j hj => ?_)
  · have e : va_cpy us vs 0 0 4 j = us (0 + (j - 0)) := pk_cpy_in (by omega) (by omega)
    rw [show 0 + (j - 0) = j by omega] at e
    exact e
  · have e : va_cpy uc vc 0 0 7 j = uc (0 + (j - 0)) := pk_cpy_in (by omega) (by omega)
    rw [show 0 + (j - 0) = j by omega] at e
    exact e
theorem ar_erase {a a' : Nat → Int32} {l : List Nat} {k : Nat} (h : ar_is a 0 l) (hk : k < l.length) (h1 : ∀ j, j < k → a' j = a j) (h2 : ∀ j, k ≤ j → j + 1 < l.length → a' j = a (j + 1)) : ar_is a' 0 (l.eraseIdx k) := by
  intro j c hj
  rw [Nat.zero_add]
  rw [List.getElem?_eraseIdx] at hj
  by_cases e : j < k
  · rw [if_pos e] at hj
    rw [h1 j e]
    have := h j c hj
    rwa [Nat.zero_add] at this
  · rw [if_neg e] at hj
    have hlt : j + 1 < l.length := (List.getElem?_eq_some_iff.mp hj).1
    rw [h2 j (by omega) hlt]
    have := h (j + 1) c hj
    rwa [Nat.zero_add] at this
def sp_Dr_removeCode : am_S := fun av w post => ∃ (k vn vu vy : Int32) (vf : Int64) (vc : Nat → Int32) (cs : List Nat), av = [aR 22, aI k] ∧ w.length = 26 ∧ w[22]? = some (cDv vn vu (nI cs.length) vf vy) ∧ w[24]? = some (iC 7 vc) ∧ (ar_is vc 0 cs) ∧ (cs.length ≤ 7) ∧ ((k = (-1) ∧ post none w) ∨ (∃ j : Nat, k = nI j ∧ j < cs.length ∧ ∀ vc' : Nat → Int32, ar_is vc' 0 (cs.eraseIdx j) → post none ((w.set 24 (iC 7 vc')).set 22 (cDv vn vu (nI (cs.length - 1)) vf vy))))
set_option maxRecDepth 20000 in
set_option maxHeartbeats 2000000 in
theorem c_Dr_removeCode : Con y_Dr_removeCode b_Dr_removeCode 3 none 0 0 0 false sp_Dr_removeCode := by
  refine Con.of (by decide) (fun av w post h => by obtain ⟨k, vn, vu, vy, vf, vc, cs, rfl, -⟩ := h; exact Nat.le_of_ble_eq_true rfl) ?_
  intro X K hnm av w post h hr _
  obtain ⟨k, vn, vu, vy, vf, vc, cs, rfl, hlen, hc22, hc24, hc, h7, hp⟩ := h
  obtain ⟨c0, c1, c2, c3, c4, c5, c6, c7, c8, c9, c10, c11, c12, c13, c14, c15, c16, c17, c18, c19, c20, c21, c22, c23, c24, c25, rfl⟩ := len26 hlen
  obtain rfl : c22 = _ := Option.some.inj hc22
  obtain rfl : c24 = _ := Option.some.inj hc24
  rcases hp with ⟨rfl, hp⟩ | ⟨j, rfl, hj, hp⟩
  · exact x_Dr_removeCode_0 K hr ⟨fun _ => hp, fun q => absurd (by decide) q⟩
  · refine x_Dr_removeCode_0 K hr ⟨fun q => absurd q (nI_pos (by omega)), fun _ => ⟨fun _ => ?_, fun q => absurd (nI_lt hj (by omega)) q⟩⟩
    obtain ⟨n, hn⟩ : ∃ n, cs.length = n + 1 := ⟨cs.length - 1, by omega⟩
    have e1 : nI cs.length - 1 = nI n := by rw [hn, nI_pred]
    have e2 : cs.length - 1 = n := by omega
    rw [e1]
    rw [e2] at hp
    have key : ∀ (t i : Nat) (a : Nat → Int32), i + t = n → j ≤ i → (∀ q, q < j → a q = vc q) → (∀ q, j ≤ q → q < i → a q = vc (q + 1)) → (∀ q, i ≤ q → a q = vc q) → AW X 25 [some (aR 22), none, some (aI (nI i))] [] [c0, c1, c2, c3, c4, c5, c6, c7, c8, c9, c10, c11, c12, c13, c14, c15, c16, c17, c18, c19, c20, c21, cDv vn vu (nI n) vf vy, c23, iC 7 a, c25] 0 0 := by
      intro t
      induction t with
      | zero =>
        intro i a h1 h2 h3 h4 h5
        have e : i = n := by omega
        subst e
        refine x_Dr_removeCode_25 K hr ⟨fun _ => ?_, fun q => absurd (Int32.le_refl _) q⟩
        exact hp a (ar_erase hc hj h3 (fun q hq1 hq2 => h4 q hq1 (by omega)))
      | succ t ih =>
        intro i a h1 h2 h3 h4 h5
        refine x_Dr_removeCode_25 K hr ⟨fun q => absurd q (nI_ge (by omega) (by omega)), fun _ => ?_⟩
        have e3 : nI i + 1 = nI (i + 1) := nI_1 i
        rw [e3, nI_clamp (by omega), nI_clamp (by omega)]
        refine ⟨vp_in_nI (by omega) (by decide), vp_in_nI (by omega) (by decide), ?_⟩
        refine ih (i + 1) _ (by omega) (by omega) (fun q hq => ?_) (fun q hq1 hq2 => ?_) (fun q hq => ?_)
        · unfold upd; rw [if_neg (by omega)]; exact h3 q hq
        · unfold upd
          by_cases e : q = i
          · subst e; rw [if_pos rfl]; exact h5 _ (by omega)
          · rw [if_neg e]; exact h4 q hq1 (by omega)
        · unfold upd; rw [if_neg (by omega)]; exact h5 q (by omega)
    exact key (n - j) j vc (by omega) (Nat.le_refl _) (fun _ _ => rfl) (fun q h1 h2 => absurd h2 (by omega)) (fun _ _ => rfl)
theorem ar_snoc {a : Nat → Int32} {l : List Nat} {c : Nat} (h : ar_is a 0 l) : ar_is (upd a l.length (nI c)) 0 (l ++ [c]) := by
  intro j x hj
  rw [Nat.zero_add]
  unfold upd
  by_cases e : j < l.length
  · rw [List.getElem?_append_left e] at hj
    rw [if_neg (by omega)]
    have := h j x hj
    rwa [Nat.zero_add] at this
  · have hlt := (List.getElem?_eq_some_iff.mp hj).1
    simp at hlt
    have e2 : j = l.length := by omega
    subst e2
    rw [List.getElem?_append_right (Nat.le_refl _), Nat.sub_self] at hj
    have e3 : c = x := by simpa using hj
    rw [if_pos rfl, e3]
def sp_Dr_addCode : am_S := fun av w post => ∃ (k f t : Nat) (vn vu vy : Int32) (vf : Int64) (vc : Nat → Int32) (cs : List Nat), av = [aR 22, aI (nI k), aI (nI f), aI (nI t)] ∧ w.length = 26 ∧ w[22]? = some (cDv vn vu (nI cs.length) vf vy) ∧ w[24]? = some (iC 7 vc) ∧ (ar_is vc 0 cs) ∧ (cs.length < 7) ∧ (∀ vc' : Nat → Int32, ar_is vc' 0 (cs ++ [16 * k + 4 * f + t]) → post none ((w.set 24 (iC 7 vc')).set 22 (cDv vn vu (nI (cs.length + 1)) vf vy)))
set_option maxRecDepth 20000 in
set_option maxHeartbeats 2000000 in
theorem c_Dr_addCode : Con y_Dr_addCode b_Dr_addCode 4 none 0 0 0 false sp_Dr_addCode := by
  refine Con.of (by decide) (fun av w post h => by obtain ⟨k, f, t, vn, vu, vy, vf, vc, cs, rfl, -⟩ := h; exact Nat.le_of_ble_eq_true rfl) ?_
  intro X K hnm av w post h hr _
  obtain ⟨k, f, t, vn, vu, vy, vf, vc, cs, rfl, hlen, hc22, hc24, hc, h7, hp⟩ := h
  obtain ⟨c0, c1, c2, c3, c4, c5, c6, c7, c8, c9, c10, c11, c12, c13, c14, c15, c16, c17, c18, c19, c20, c21, c22, c23, c24, c25, rfl⟩ := len26 hlen
  obtain rfl : c22 = _ := Option.some.inj hc22
  obtain rfl : c24 = _ := Option.some.inj hc24
  refine x_Dr_addCode_0 K hr ⟨fun q => absurd q (nI_ge (b := 7) (by omega) (by decide)), fun _ => ⟨vp_in_nI (by omega) (by decide), ?_⟩⟩
  have e1 : nI cs.length + 1 = nI (cs.length + 1) := nI_1 _
  have e2 : ((16 : Int32) * nI k) + ((4 : Int32) * nI f) + nI t = nI (16 * k + 4 * f + t) := by
    rw [show (16 : Int32) * nI k = nI (16 * k) from pk_mul 16 k, show (4 : Int32) * nI f = nI (4 * f) from pk_mul 4 f, nI_add, nI_add]
  rw [e1, e2, nI_clamp (by omega)]
  exact hp _ (ar_snoc hc)
theorem sp_dS_free {st g : Nat → Nat} : ∀ {n : Nat} {j : Nat}, (∀ i, i < n → g i ≠ j) → sp_dS st g n j = 0 := by
  intro n
  induction n with
  | zero => intro j _; rfl
  | succ n ih =>
    intro j h
    unfold sp_dS
    rw [if_neg (fun e => h n (by omega) e.symm)]
    exact ih (fun i hi => h i (by omega))
def sp_Dr_statesBy : am_S := fun av w post => ∃ (q N : Nat) (nu sz sy : Int32) (fo : Int64) (vs : Nat → Int32) (st : Nat → Nat), av = [aR 22, aI (nI q)] ∧ w.length = 26 ∧ w[22]? = some (cDv (nI N) nu sz fo sy) ∧ w[23]? = some (iC 4 vs) ∧ (q < 65536) ∧ (N ≤ 4) ∧ (∀ i, i < N → vs i = nI (st i) ∧ st i < 8) ∧ (∀ i j, i < N → j < N → sp_cn q i = sp_cn q j → i = j) ∧ (post (some (aL (lN (sp_k4 (sp_dS st (sp_cn q) N))))) w)
set_option maxRecDepth 20000 in
set_option maxHeartbeats 2000000 in
theorem c_Dr_statesBy : Con y_Dr_statesBy b_Dr_statesBy 5 (some .long) 0 0 0 false sp_Dr_statesBy := by
  refine Con.of (by decide) (fun av w post h => by obtain ⟨q, N, nu, sz, sy, fo, vs, st, rfl, -⟩ := h; exact Nat.le_of_ble_eq_true rfl) ?_
  intro X K hnm av w post h hr _
  obtain ⟨q, N, nu, sz, sy, fo, vs, st, rfl, hlen, hc22, hc23, hq, h4, hst, hinj, hp⟩ := h
  obtain ⟨c0, c1, c2, c3, c4, c5, c6, c7, c8, c9, c10, c11, c12, c13, c14, c15, c16, c17, c18, c19, c20, c21, c22, c23, c24, c25, rfl⟩ := len26 hlen
  obtain rfl : c22 = _ := Option.some.inj hc22
  obtain rfl : c23 = _ := Option.some.inj hc23
  refine x_Dr_statesBy_0 K hr ?_
  have key : ∀ (t i : Nat), i + t = N → AW X 4 [some (aR 22), some (aI (nI q)), some (aI (nI (sp_k4 (sp_dS st (sp_cn q) i)))), some (aI (nI i)), none] [] [c0, c1, c2, c3, c4, c5, c6, c7, c8, c9, c10, c11, c12, c13, c14, c15, c16, c17, c18, c19, c20, c21, cDv (nI N) nu sz fo sy, iC 4 vs, c24, c25] 0 0 := by
    intro t
    induction t with
    | zero =>
      intro i h1
      have e : i = N := by omega
      subst e
      refine x_Dr_statesBy_4 K hr ⟨fun _ => ?_, fun q => absurd (Int32.le_refl _) q⟩
      have hlt := sp_k4_lt (sp_dS_lt (st := st) (g := sp_cn q) (N := i) (fun j hj => (hst j hj).2))
      rw [nI_l (by omega)]
      exact hp
    | succ t ih =>
      intro i h1
      refine x_Dr_statesBy_4 K hr ⟨fun q => absurd q (nI_ge (by omega) (by omega)), fun _ => ⟨vp_in_nI (by omega) (by decide), ?_⟩⟩
      have hcn : sp_cn q i < 4 := Nat.mod_lt _ (by omega)
      have hs8 := (hst i (by omega)).2
      have e0 : (3 : Int32) - nI (sp_cn q i) = nI (3 - sp_cn q i) := pk_sub (a := 3) (by omega)
      have e1 : (3 : Int32) * nI (3 - sp_cn q i) = nI (3 * (3 - sp_cn q i)) := pk_mul 3 _
      have hp2 : st i * 2 ^ (3 * (3 - sp_cn q i)) < 2 ^ 32 := by
        have : 2 ^ (3 * (3 - sp_cn q i)) ≤ 2 ^ 9 := Nat.pow_le_pow_right (by decide) (by omega)
        have h3 : st i * 2 ^ (3 * (3 - sp_cn q i)) ≤ 7 * 2 ^ 9 := Nat.mul_le_mul (by omega) this
        omega
      rw [nI_clamp (by omega), (hst i (by omega)).1, bt_cn hq (by omega), e0, e1, pk_shlN _ (3 * (3 - sp_cn q i)) (s_l _ (by omega)) hp2, nx_or, nI_1]
      rw [sp_k4_or (sp_dS_lt (fun j hj => (hst j (by omega)).2)) hcn (sp_dS_free (fun j hj e => by have := hinj j i (by omega) (by omega) e; omega)) hs8]
      exact ih (i + 1) (by omega)
  exact key N 0 (by omega)

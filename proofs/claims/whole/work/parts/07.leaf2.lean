/-! ===== CONTRACTS, the class's leaves: forms read, drafts ===== -/
theorem nI_m1 {a : Nat} (h : a < 2 ^ 31) : nI a - 1 = (-1) ↔ a = 0 := by
  constructor
  · intro e
    rcases Nat.eq_zero_or_pos a with h0 | h0
    · exact h0
    · obtain ⟨k, rfl⟩ : ∃ k, a = k + 1 := ⟨a - 1, by omega⟩
      rw [nI_pred] at e
      have h1 := nI_toInt (n := k) (by omega)
      rw [e] at h1
      have h2 : ((-1 : Int32)).toInt = -1 := by decide
      omega
  · intro e
    subst e
    decide
theorem sp_go_le (k : Nat) : ∀ f j, sp_go k f j ≤ j + f := by
  intro f
  induction f with
  | zero => intro j; exact Nat.le_refl _
  | succ f ih =>
    intro j
    unfold sp_go
    split
    · omega
    · have := ih (j + 1)
      omega
theorem sp_n_le (k : Nat) : sp_n k ≤ 7 := sp_go_le k 7 0
theorem sp_co_lt (k j : Nat) : sp_co k j < 128 := Nat.mod_lt _ (by omega)
theorem sp_st_lt (k i : Nat) : sp_st k i < 8 := Nat.mod_lt _ (by omega)
theorem sp_go_nz (k : Nat) : ∀ f j i, j ≤ i → i < sp_go k f j → sp_co k i ≠ 0 := by
  intro f
  induction f with
  | zero => intro j i h1 h2; exact absurd h2 (Nat.not_lt.mpr h1)
  | succ f ih =>
    intro j i h1 h2
    unfold sp_go at h2
    split at h2
    · omega
    · next h =>
      by_cases e : i = j
      · subst e; exact h
      · exact ih (j + 1) i (by omega) h2
theorem sp_n_nz {k j : Nat} (h : j < sp_n k) : sp_co k j ≠ 0 := sp_go_nz k 7 0 j (Nat.zero_le _) h
def sp_SE_stateIn : am_S := fun av w post => ∃ (f i : Nat), av = [aL (lN f), aI (nI i)] ∧ w.length = 26 ∧ (f < 2 ^ 63) ∧ (i < 4) ∧ (post (some (aI (nI (sp_st f i)))) w)
set_option maxRecDepth 20000 in
set_option maxHeartbeats 2000000 in
theorem c_SE_stateIn : Con y_SE_stateIn b_SE_stateIn 3 (some .int) 0 0 0 false sp_SE_stateIn := by
  refine Con.of (by decide) (fun av w post h => by obtain ⟨f, i, rfl, -⟩ := h; exact Nat.le_of_ble_eq_true rfl) ?_
  intro X K hnm av w post h hr _
  obtain ⟨f, i, rfl, hlen, hf, hi, hp⟩ := h
  obtain ⟨c0, c1, c2, c3, c4, c5, c6, c7, c8, c9, c10, c11, c12, c13, c14, c15, c16, c17, c18, c19, c20, c21, c22, c23, c24, c25, rfl⟩ := len26 hlen
  refine x_SE_stateIn_0 K hr ?_
  rw [bt_st hf hi]
  exact hp
def sp_SE_codeIn : am_S := fun av w post => ∃ (f j : Nat), av = [aL (lN f), aI (nI j)] ∧ w.length = 26 ∧ (f < 2 ^ 63) ∧ (j < 7) ∧ (post (some (aI (nI (sp_co f j) - 1))) w)
set_option maxRecDepth 20000 in
set_option maxHeartbeats 2000000 in
theorem c_SE_codeIn : Con y_SE_codeIn b_SE_codeIn 3 (some .int) 0 0 0 false sp_SE_codeIn := by
  refine Con.of (by decide) (fun av w post h => by obtain ⟨f, j, rfl, -⟩ := h; exact Nat.le_of_ble_eq_true rfl) ?_
  intro X K hnm av w post h hr _
  obtain ⟨f, j, rfl, hlen, hf, hj, hp⟩ := h
  obtain ⟨c0, c1, c2, c3, c4, c5, c6, c7, c8, c9, c10, c11, c12, c13, c14, c15, c16, c17, c18, c19, c20, c21, c22, c23, c24, c25, rfl⟩ := len26 hlen
  refine x_SE_codeIn_0 K hr ?_
  rw [bt_co hf hj]
  exact hp
def sp_SE_codesIn : am_S := fun av w post => ∃ (f : Nat), av = [aL (lN f)] ∧ w.length = 26 ∧ (f < 2 ^ 63) ∧ (post (some (aI (nI (sp_n f)))) w)
set_option maxRecDepth 20000 in
set_option maxHeartbeats 2000000 in
theorem c_SE_codesIn : Con y_SE_codesIn b_SE_codesIn 3 (some .int) 1 0 0 false sp_SE_codesIn := by
  refine Con.of (by decide) (fun av w post h => by obtain ⟨f, rfl, -⟩ := h; exact Nat.le_of_ble_eq_true rfl) ?_
  intro X K hnm av w post h hr _
  obtain ⟨f, rfl, hlen, hf, hp⟩ := h
  obtain ⟨c0, c1, c2, c3, c4, c5, c6, c7, c8, c9, c10, c11, c12, c13, c14, c15, c16, c17, c18, c19, c20, c21, c22, c23, c24, c25, rfl⟩ := len26 hlen
  refine x_SE_codesIn_0 K hr ?_
  have key : ∀ (t j : Nat), j + t = 7 → sp_go f t j = sp_n f → AW X 2 [some (aL (lN f)), none, some (aI (nI j))] [] [c0, c1, c2, c3, c4, c5, c6, c7, c8, c9, c10, c11, c12, c13, c14, c15, c16, c17, c18, c19, c20, c21, c22, c23, c24, c25] 0 0 := by
    intro t
    induction t with
    | zero =>
      intro j h1 h2
      have e : j = 7 := by omega
      subst e
      refine x_SE_codesIn_2 K hr c_SE_codeIn (by decide) ⟨fun _ => ?_, fun q => absurd (nI_le (a := 7) (b := 7) (Nat.le_refl _) (by decide)) q⟩
      have h3 : (7 : Nat) = sp_n f := h2
      rw [← h3] at hp
      exact hp
    | succ t ih =>
      intro j h1 h2
      refine x_SE_codesIn_2 K hr c_SE_codeIn (by decide) ⟨fun q => absurd q (nI_ge (a := j) (b := 7) (by omega) (by decide)), fun q => ?_⟩
      refine ⟨f, j, rfl, rfl, hf, by omega, ?_⟩
      unfold sp_go at h2
      refine x_SE_codesIn_13 K hr ⟨fun q2 => ?_, fun q2 => ?_⟩
      · have e := (nI_m1 (by have := sp_co_lt f j; omega)).mp q2
        rw [if_pos e] at h2
        rw [← h2] at hp
        exact hp
      · have e : ¬ sp_co f j = 0 := fun e => q2 ((nI_m1 (by have := sp_co_lt f j; omega)).mpr e)
        rw [if_neg e] at h2
        rw [nI_1]
        exact ih (j + 1) (by omega) h2
  exact key 7 0 rfl rfl
def sp_SE_numberingsOf : am_S := fun av w post => ∃ (N : Nat), av = [aI (nI N)] ∧ w.length = 26 ∧ (1 ≤ N) ∧ (N ≤ 4) ∧ (post (some (aI (nI (if N = 1 then 1 else if N = 2 then 2 else if N = 3 then 6 else 24)))) w)
set_option maxRecDepth 20000 in
set_option maxHeartbeats 2000000 in
theorem c_SE_numberingsOf : Con y_SE_numberingsOf b_SE_numberingsOf 3 (some .int) 1 0 0 false sp_SE_numberingsOf := by
  refine Con.of (by decide) (fun av w post h => by obtain ⟨N, rfl, -⟩ := h; exact Nat.le_of_ble_eq_true rfl) ?_
  intro X K hnm av w post h hr _
  obtain ⟨N, rfl, hlen, h1, h4, hp⟩ := h
  obtain ⟨c0, c1, c2, c3, c4, c5, c6, c7, c8, c9, c10, c11, c12, c13, c14, c15, c16, c17, c18, c19, c20, c21, c22, c23, c24, c25, rfl⟩ := len26 hlen
  refine x_SE_numberingsOf_0 K hr ?_
  rcases (show N = 1 ∨ N = 2 ∨ N = 3 ∨ N = 4 by omega) with rfl | rfl | rfl | rfl
  · exact x_SE_numberingsOf_4 K hr (by decide) ⟨fun _ => hp, fun q => absurd (by decide) q⟩
  · refine x_SE_numberingsOf_4 K hr (by decide) ⟨fun q => absurd q (by decide), fun _ => ?_⟩
    exact x_SE_numberingsOf_4 K hr (by decide) ⟨fun _ => hp, fun q => absurd (by decide) q⟩
  · refine x_SE_numberingsOf_4 K hr (by decide) ⟨fun q => absurd q (by decide), fun _ => ?_⟩
    refine x_SE_numberingsOf_4 K hr (by decide) ⟨fun q => absurd q (by decide), fun _ => ?_⟩
    exact x_SE_numberingsOf_4 K hr (by decide) ⟨fun _ => hp, fun q => absurd (by decide) q⟩
  · refine x_SE_numberingsOf_4 K hr (by decide) ⟨fun q => absurd q (by decide), fun _ => ?_⟩
    refine x_SE_numberingsOf_4 K hr (by decide) ⟨fun q => absurd q (by decide), fun _ => ?_⟩
    refine x_SE_numberingsOf_4 K hr (by decide) ⟨fun q => absurd q (by decide), fun _ => ?_⟩
    exact x_SE_numberingsOf_4 K hr (by decide) ⟨fun _ => hp, fun q => absurd (by decide) q⟩
def sp_Dr_load_22 : am_S := fun av w post => ∃ (f N : Nat) (nu sz sy : Int32) (fo : Int64) (vs vc : Nat → Int32), av = [aR 22, aL (lN f)] ∧ w.length = 26 ∧ w[22]? = some (cDv (nI N) nu sz fo sy) ∧ w[23]? = some (iC 4 vs) ∧ w[24]? = some (iC 7 vc) ∧ (f < 2 ^ 63) ∧ (N ≤ 4) ∧ (∀ vs' vc' : Nat → Int32, (∀ i, i < N → vs' i = nI (sp_st f i)) → ar_is vc' 0 (sp_cs f) → post none (((w.set 23 (iC 4 vs')).set 24 (iC 7 vc')).set 22 (cDv (nI N) nu (nI (sp_n f)) fo sy)))
set_option maxRecDepth 20000 in
set_option maxHeartbeats 2000000 in
theorem c_Dr_load_22 : Con y_Dr_load b_Dr_load 4 none 2 0 0 false sp_Dr_load_22 := by
  refine Con.of (by decide) (fun av w post h => by obtain ⟨f, N, nu, sz, sy, fo, vs, vc, rfl, -⟩ := h; exact Nat.le_of_ble_eq_true rfl) ?_
  intro X K hnm av w post h hr _
  obtain ⟨f, N, nu, sz, sy, fo, vs, vc, rfl, hlen, hc22, hc23, hc24, hf, h4, hp⟩ := h
  obtain ⟨c0, c1, c2, c3, c4, c5, c6, c7, c8, c9, c10, c11, c12, c13, c14, c15, c16, c17, c18, c19, c20, c21, c22, c23, c24, c25, rfl⟩ := len26 hlen
  obtain rfl : c22 = _ := Option.some.inj hc22
  obtain rfl : c23 = _ := Option.some.inj hc23
  obtain rfl : c24 = _ := Option.some.inj hc24
  refine x_Dr_load_22_0 K hr ?_
  have key2 : ∀ (t j : Nat) (vs' vc' : Nat → Int32), j + t = sp_n f → (∀ i, i < N → vs' i = nI (sp_st f i)) → (∀ i, i < j → vc' i = nI (sp_co f i - 1)) → AW X 37 [some (aR 22), some (aL (lN f)), none, some (aI (nI j))] [] [c0, c1, c2, c3, c4, c5, c6, c7, c8, c9, c10, c11, c12, c13, c14, c15, c16, c17, c18, c19, c20, c21, cDv (nI N) nu (nI (sp_n f)) fo sy, iC 4 vs', iC 7 vc', c25] 0 0 := by
    intro t
    induction t with
    | zero =>
      intro j vs' vc' h1 h2 h3
      have e : j = sp_n f := by omega
      subst e
      refine x_Dr_load_22_37 K hr c_SE_codeIn (by decide) ⟨fun _ => ?_, fun q => absurd (Int32.le_refl _) q⟩
      refine hp vs' vc' h2 (fun i c hi => ?_)
      rw [Nat.zero_add]
      unfold sp_cs at hi
      rw [List.getElem?_map] at hi
      by_cases hlt : i < sp_n f
      · rw [List.getElem?_range hlt] at hi
        have e : sp_co f i - 1 = c := by simpa using hi
        rw [h3 i hlt, e]
      · rw [List.getElem?_eq_none (by simpa using hlt)] at hi
        simp at hi
    | succ t ih =>
      intro j vs' vc' h1 h2 h3
      have h7 := sp_n_le f
      refine x_Dr_load_22_37 K hr c_SE_codeIn (by decide) ⟨fun q => absurd q (nI_ge (by omega) (by omega)), fun q => ?_⟩
      refine ⟨f, j, rfl, rfl, hf, by omega, ?_⟩
      refine x_Dr_load_22_55 K hr ⟨vp_in_nI (by omega) (by decide), ?_⟩
      rw [nI_1]
      refine ih (j + 1) vs' _ (by omega) h2 (fun i hi => ?_)
      rw [nI_clamp (by omega)]
      unfold upd
      by_cases e : i = j
      · subst e
        rw [if_pos rfl]
        have hnz := sp_n_nz (k := f) (j := i) (by omega)
        obtain ⟨k, hk⟩ : ∃ k, sp_co f i = k + 1 := ⟨sp_co f i - 1, by omega⟩
        rw [hk, nI_pred]
        rfl
      · rw [if_neg e]
        exact h3 i (by omega)
  have key1 : ∀ (t j : Nat) (vs' : Nat → Int32), j + t = N → (∀ i, i < j → vs' i = nI (sp_st f i)) → AW X 2 [some (aR 22), some (aL (lN f)), none, some (aI (nI j))] [] [c0, c1, c2, c3, c4, c5, c6, c7, c8, c9, c10, c11, c12, c13, c14, c15, c16, c17, c18, c19, c20, c21, cDv (nI N) nu sz fo sy, iC 4 vs', iC 7 vc, c25] 0 0 := by
    intro t
    induction t with
    | zero =>
      intro j vs' h1 h2
      have e : j = N := by omega
      subst e
      refine x_Dr_load_22_2 K hr c_SE_codesIn (by decide) c_SE_stateIn (by decide) ⟨fun _ => ?_, fun q => absurd (Int32.le_refl _) q⟩
      refine ⟨f, rfl, rfl, hf, ?_⟩
      refine x_Dr_load_22_32 K hr ?_
      exact key2 (sp_n f) 0 vs' vc (by omega) h2 (fun i hi => absurd hi (by omega))
    | succ t ih =>
      intro j vs' h1 h2
      refine x_Dr_load_22_2 K hr c_SE_codesIn (by decide) c_SE_stateIn (by decide) ⟨fun q => absurd q (nI_ge (by omega) (by omega)), fun q => ?_⟩
      refine ⟨f, j, rfl, rfl, hf, by omega, ?_⟩
      refine x_Dr_load_22_20 K hr ⟨vp_in_nI (by omega) (by decide), ?_⟩
      rw [nI_1]
      refine ih (j + 1) _ (by omega) (fun i hi => ?_)
      rw [nI_clamp (by omega)]
      unfold upd
      by_cases e : i = j
      · subst e
        rw [if_pos rfl]
      · rw [if_neg e]
        exact h2 i (by omega)
  exact key1 N 0 vs (by omega) (fun i hi => absurd hi (by omega))

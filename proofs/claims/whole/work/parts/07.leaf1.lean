/-! ===== CONTRACTS, the class's leaves: Model, Store ===== -/
abbrev cMo (nodes states kinds rules : Int32) (bp : Int64) : am_C := oC 1 [aI nodes, aI states, aI kinds, aI rules, aR 2, aR 3, aR 4, aR 5, aR 6, aR 7, aR 8, aL bp]
abbrev cSt (size : Int32) : am_C := oC 2 [aI size, aR 10, aR 11, aR 12, aR 13, aR 14, aR 15, aR 16]
abbrev cEx (ending gone steps back stuck stood here : Int32) : am_C := oC 3 [aR 1, aR 9, aI ending, aI gone, aI steps, aI back, aI stuck, aI stood, aI here, aR 18, aR 22]
abbrev cDu (nodes nums size : Int32) (form : Int64) (sym : Int32) : am_C := oC 4 [aI nodes, aI nums, aR 19, aR 20, aI size, aL form, aI sym, aR 21]
abbrev cDv (nodes nums size : Int32) (form : Int64) (sym : Int32) : am_C := oC 4 [aI nodes, aI nums, aR 23, aR 24, aI size, aL form, aI sym, aR 25]
theorem len26 {w : List am_C} (h : w.length = 26) : ∃ c0 c1 c2 c3 c4 c5 c6 c7 c8 c9 c10 c11 c12 c13 c14 c15 c16 c17 c18 c19 c20 c21 c22 c23 c24 c25, w = [c0, c1, c2, c3, c4, c5, c6, c7, c8, c9, c10, c11, c12, c13, c14, c15, c16, c17, c18, c19, c20, c21, c22, c23, c24, c25] := by
  match w, h with
  | [c0, c1, c2, c3, c4, c5, c6, c7, c8, c9, c10, c11, c12, c13, c14, c15, c16, c17, c18, c19, c20, c21, c22, c23, c24, c25], _ => exact ⟨c0, c1, c2, c3, c4, c5, c6, c7, c8, c9, c10, c11, c12, c13, c14, c15, c16, c17, c18, c19, c20, c21, c22, c23, c24, c25, rfl⟩
theorem len19 {w : List am_C} (h : w.length = 19) : ∃ c0 c1 c2 c3 c4 c5 c6 c7 c8 c9 c10 c11 c12 c13 c14 c15 c16 c17 c18, w = [c0, c1, c2, c3, c4, c5, c6, c7, c8, c9, c10, c11, c12, c13, c14, c15, c16, c17, c18] := by
  match w, h with
  | [c0, c1, c2, c3, c4, c5, c6, c7, c8, c9, c10, c11, c12, c13, c14, c15, c16, c17, c18], _ => exact ⟨c0, c1, c2, c3, c4, c5, c6, c7, c8, c9, c10, c11, c12, c13, c14, c15, c16, c17, c18, rfl⟩
def sp_Mo_hasState : am_S := fun av w post => ∃ (k n a b c : Int32) (bp : Int64), av = [aR 1, aI k] ∧ w.length = 26 ∧ w[1]? = some (cMo a n b c bp) ∧ (post (some (aI (if 0 ≤ k ∧ k < n then 1 else 0))) w)
set_option maxRecDepth 20000 in
set_option maxHeartbeats 2000000 in
theorem c_Mo_hasState : Con y_Mo_hasState b_Mo_hasState 2 (some .boolean) 0 0 0 false sp_Mo_hasState := by
  refine Con.of (by decide) (fun av w post h => by obtain ⟨k, n, a, b, c, bp, rfl, -⟩ := h; exact Nat.le_of_ble_eq_true rfl) ?_
  intro X K hnm av w post h hr _
  obtain ⟨k, n, a, b, c, bp, rfl, hlen, hc1, hp⟩ := h
  obtain ⟨c0, c1, c2, c3, c4, c5, c6, c7, c8, c9, c10, c11, c12, c13, c14, c15, c16, c17, c18, c19, c20, c21, c22, c23, c24, c25, rfl⟩ := len26 hlen
  obtain rfl : c1 = _ := Option.some.inj hc1
  refine x_Mo_hasState_0 K hr ⟨fun q => ?_, fun q => ⟨fun q2 => ?_, fun q2 => ?_⟩⟩
  · rw [if_neg (fun z => Int32.not_le.mpr q z.1)] at hp; exact hp
  · rw [if_neg (fun z => Int32.not_lt.mpr q2 z.2)] at hp; exact hp
  · rw [if_pos ⟨Int32.not_lt.mp q, Int32.not_le.mp q2⟩] at hp; exact hp
def sp_Mo_hasKind : am_S := fun av w post => ∃ (k n a b c : Int32) (bp : Int64), av = [aR 1, aI k] ∧ w.length = 26 ∧ w[1]? = some (cMo a b n c bp) ∧ (post (some (aI (if 0 ≤ k ∧ k < n then 1 else 0))) w)
set_option maxRecDepth 20000 in
set_option maxHeartbeats 2000000 in
theorem c_Mo_hasKind : Con y_Mo_hasKind b_Mo_hasKind 2 (some .boolean) 0 0 0 false sp_Mo_hasKind := by
  refine Con.of (by decide) (fun av w post h => by obtain ⟨k, n, a, b, c, bp, rfl, -⟩ := h; exact Nat.le_of_ble_eq_true rfl) ?_
  intro X K hnm av w post h hr _
  obtain ⟨k, n, a, b, c, bp, rfl, hlen, hc1, hp⟩ := h
  obtain ⟨c0, c1, c2, c3, c4, c5, c6, c7, c8, c9, c10, c11, c12, c13, c14, c15, c16, c17, c18, c19, c20, c21, c22, c23, c24, c25, rfl⟩ := len26 hlen
  obtain rfl : c1 = _ := Option.some.inj hc1
  refine x_Mo_hasKind_0 K hr ⟨fun q => ?_, fun q => ⟨fun q2 => ?_, fun q2 => ?_⟩⟩
  · rw [if_neg (fun z => Int32.not_le.mpr q z.1)] at hp; exact hp
  · rw [if_neg (fun z => Int32.not_lt.mpr q2 z.2)] at hp; exact hp
  · rw [if_pos ⟨Int32.not_lt.mp q, Int32.not_le.mp q2⟩] at hp; exact hp
def sp_St_has : am_S := fun av w post => ∃ (k n : Int32), av = [aR 9, aI k] ∧ w.length = 26 ∧ w[9]? = some (cSt n) ∧ (post (some (aI (if 0 ≤ k ∧ k < n then 1 else 0))) w)
set_option maxRecDepth 20000 in
set_option maxHeartbeats 2000000 in
theorem c_St_has : Con y_St_has b_St_has 2 (some .boolean) 0 0 0 false sp_St_has := by
  refine Con.of (by decide) (fun av w post h => by obtain ⟨k, n, rfl, -⟩ := h; exact Nat.le_of_ble_eq_true rfl) ?_
  intro X K hnm av w post h hr _
  obtain ⟨k, n, rfl, hlen, hc9, hp⟩ := h
  obtain ⟨c0, c1, c2, c3, c4, c5, c6, c7, c8, c9, c10, c11, c12, c13, c14, c15, c16, c17, c18, c19, c20, c21, c22, c23, c24, c25, rfl⟩ := len26 hlen
  obtain rfl : c9 = _ := Option.some.inj hc9
  refine x_St_has_0 K hr ⟨fun q => ?_, fun q => ⟨fun q2 => ?_, fun q2 => ?_⟩⟩
  · rw [if_neg (fun z => Int32.not_le.mpr q z.1)] at hp; exact hp
  · rw [if_neg (fun z => Int32.not_lt.mpr q2 z.2)] at hp; exact hp
  · rw [if_pos ⟨Int32.not_lt.mp q, Int32.not_le.mp q2⟩] at hp; exact hp
def sp_St_isFull : am_S := fun av w post => ∃ (n : Int32) (room : Nat) (f : Nat → Int64), av = [aR 9] ∧ w.length = 26 ∧ w[9]? = some (cSt n) ∧ w[10]? = some (jC room f) ∧ (post (some (aI (if n < nI room then 0 else 1))) w)
set_option maxRecDepth 20000 in
set_option maxHeartbeats 2000000 in
theorem c_St_isFull : Con y_St_isFull b_St_isFull 1 (some .boolean) 0 0 0 false sp_St_isFull := by
  refine Con.of (by decide) (fun av w post h => by obtain ⟨n, room, f, rfl, -⟩ := h; exact Nat.le_of_ble_eq_true rfl) ?_
  intro X K hnm av w post h hr _
  obtain ⟨n, room, f, rfl, hlen, hc9, hc10, hp⟩ := h
  obtain ⟨c0, c1, c2, c3, c4, c5, c6, c7, c8, c9, c10, c11, c12, c13, c14, c15, c16, c17, c18, c19, c20, c21, c22, c23, c24, c25, rfl⟩ := len26 hlen
  obtain rfl : c9 = _ := Option.some.inj hc9
  obtain rfl : c10 = _ := Option.some.inj hc10
  refine x_St_isFull_0 K hr ⟨fun q => ?_, fun q => ?_⟩
  · rw [if_pos q] at hp; exact hp
  · rw [if_neg q] at hp; exact hp
def sp_St_isTaken : am_S := fun av w post => ∃ (k n : Int32) (nsl : Nat) (f : Nat → Int32), av = [aR 9, aI k] ∧ w.length = 26 ∧ w[9]? = some (cSt n) ∧ w[16]? = some (iC nsl f) ∧ (vp_in k nsl) ∧ (post (some (aI (if f k.toNatClampNeg = 0 then 0 else 1))) w)
set_option maxRecDepth 20000 in
set_option maxHeartbeats 2000000 in
theorem c_St_isTaken : Con y_St_isTaken b_St_isTaken 2 (some .boolean) 0 0 0 false sp_St_isTaken := by
  refine Con.of (by decide) (fun av w post h => by obtain ⟨k, n, nsl, f, rfl, -⟩ := h; exact Nat.le_of_ble_eq_true rfl) ?_
  intro X K hnm av w post h hr _
  obtain ⟨k, n, nsl, f, rfl, hlen, hc9, hc16, hk, hp⟩ := h
  obtain ⟨c0, c1, c2, c3, c4, c5, c6, c7, c8, c9, c10, c11, c12, c13, c14, c15, c16, c17, c18, c19, c20, c21, c22, c23, c24, c25, rfl⟩ := len26 hlen
  obtain rfl : c9 = _ := Option.some.inj hc9
  obtain rfl : c16 = _ := Option.some.inj hc16
  refine x_St_isTaken_0 K hr ⟨hk, fun q => ?_, fun q => ?_⟩
  · rw [if_pos q] at hp; exact hp
  · rw [if_neg q] at hp; exact hp
def sp_Ar_fill : am_S := fun av w post => ∃ (v : Int32) (nsl : Nat) (f : Nat → Int32), av = [aR 16, aI v] ∧ w.length = 26 ∧ w[16]? = some (iC nsl f) ∧ (nsl < 2 ^ 31) ∧ (post none (w.set 16 (iC nsl (fun j => if j < nsl then v else f j))))
set_option maxRecDepth 20000 in
set_option maxHeartbeats 2000000 in
theorem c_Ar_fill : Con y_Ar_fill b_Ar_fill 4 none 0 0 0 false sp_Ar_fill := by
  refine Con.of (by decide) (fun av w post h => by obtain ⟨v, nsl, f, rfl, -⟩ := h; exact Nat.le_of_ble_eq_true rfl) ?_
  intro X K hnm av w post h hr _
  obtain ⟨v, nsl, f, rfl, hlen, hc16, hn, hp⟩ := h
  obtain ⟨c0, c1, c2, c3, c4, c5, c6, c7, c8, c9, c10, c11, c12, c13, c14, c15, c16, c17, c18, c19, c20, c21, c22, c23, c24, c25, rfl⟩ := len26 hlen
  obtain rfl : c16 = _ := Option.some.inj hc16
  refine x_Ar_fill_0 K hr ?_
  have key : ∀ (m i : Nat) (g : Nat → Int32), i ≤ nsl → nsl + 1 ≤ i + m → (∀ j, g j = if j < i then v else f j) → AW X 5 [some (aR 16), some (aI v), some (aI (nI i)), some (aI (nI nsl))] [] [c0, c1, c2, c3, c4, c5, c6, c7, c8, c9, c10, c11, c12, c13, c14, c15, iC nsl g, c17, c18, c19, c20, c21, c22, c23, c24, c25] 0 0 := by
    intro m
    induction m with
    | zero => intro i g h1 h2; omega
    | succ m ih =>
      intro i g h1 h2 hg
      refine x_Ar_fill_5 K hr ⟨fun q => ?_, fun q => ?_⟩
      · have e : i = nsl := by
          have := (nI_leI hn (by omega)).mp q
          omega
        subst e
        have eg : g = fun j => if j < i then v else f j := funext hg
        rw [eg]
        exact hp
      · have hlt : i < nsl := by
          rcases Nat.lt_or_ge i nsl with h | h
          · exact h
          · exact absurd (nI_le h (by omega)) q
        refine ⟨vp_in_nI hlt hn, ?_⟩
        rw [nI_1]
        refine ih (i + 1) _ (by omega) (by omega) (fun j => ?_)
        rw [nI_clamp (by omega)]
        unfold upd
        by_cases hj : j = i
        · subst hj
          rw [if_pos rfl, if_pos (by omega)]
        · rw [if_neg hj, hg j]
          by_cases hj2 : j < i
          · rw [if_pos hj2, if_pos (by omega)]
          · rw [if_neg hj2, if_neg (by omega)]
  exact key (nsl + 1) 0 f (Nat.zero_le _) (by omega) (fun j => by rw [if_neg (by omega)])
def sp_St_clear : am_S := fun av w post => ∃ (n : Int32) (nsl : Nat) (f : Nat → Int32), av = [aR 9] ∧ w.length = 26 ∧ w[9]? = some (cSt n) ∧ w[16]? = some (iC nsl f) ∧ (nsl < 2 ^ 31) ∧ ((n ≤ 0 → post none w) ∧ (¬ n ≤ 0 → post none ((w.set 16 (iC nsl (fun j => if j < nsl then 0 else f j))).set 9 (cSt 0))))
set_option maxRecDepth 20000 in
set_option maxHeartbeats 2000000 in
theorem c_St_clear : Con y_St_clear b_St_clear 1 none 1 0 0 false sp_St_clear := by
  refine Con.of (by decide) (fun av w post h => by obtain ⟨n, nsl, f, rfl, -⟩ := h; exact Nat.le_of_ble_eq_true rfl) ?_
  intro X K hnm av w post h hr _
  obtain ⟨n, nsl, f, rfl, hlen, hc9, hc16, hn, hp⟩ := h
  obtain ⟨c0, c1, c2, c3, c4, c5, c6, c7, c8, c9, c10, c11, c12, c13, c14, c15, c16, c17, c18, c19, c20, c21, c22, c23, c24, c25, rfl⟩ := len26 hlen
  obtain rfl : c9 = _ := Option.some.inj hc9
  obtain rfl : c16 = _ := Option.some.inj hc16
  refine x_St_clear_0 K hr c_Ar_fill (by decide) ⟨fun q => hp.1 q, fun q => ?_⟩
  refine ⟨0, nsl, f, rfl, rfl, rfl, hn, ?_⟩
  exact x_St_clear_15 K hr (hp.2 q)
def sp_St_greatestLevel : am_S := fun av w post => ∃ (n room : Nat) (f : Nat → Int32), av = [aR 9] ∧ w.length = 26 ∧ w[9]? = some (cSt (nI n)) ∧ w[11]? = some (iC room f) ∧ (n ≤ room) ∧ (room < 2 ^ 31) ∧ (post (some (aI (if n = 0 then (-1) else f (n - 1)))) w)
set_option maxRecDepth 20000 in
set_option maxHeartbeats 2000000 in
theorem c_St_greatestLevel : Con y_St_greatestLevel b_St_greatestLevel 1 (some .int) 0 0 0 false sp_St_greatestLevel := by
  refine Con.of (by decide) (fun av w post h => by obtain ⟨n, room, f, rfl, -⟩ := h; exact Nat.le_of_ble_eq_true rfl) ?_
  intro X K hnm av w post h hr _
  obtain ⟨n, room, f, rfl, hlen, hc9, hc11, hn, hr9, hp⟩ := h
  obtain ⟨c0, c1, c2, c3, c4, c5, c6, c7, c8, c9, c10, c11, c12, c13, c14, c15, c16, c17, c18, c19, c20, c21, c22, c23, c24, c25, rfl⟩ := len26 hlen
  obtain rfl : c9 = _ := Option.some.inj hc9
  obtain rfl : c11 = _ := Option.some.inj hc11
  refine x_St_greatestLevel_0 K hr ⟨fun q => ?_, fun q => ?_⟩
  · have e : n = 0 := by
      rcases Nat.eq_zero_or_pos n with h | h
      · exact h
      · exact absurd q (nI_nle h (by omega))
    rw [if_pos e] at hp; exact hp
  · have e : ¬ n = 0 := fun e => q (by subst e; exact Int32.le_refl _)
    have e1 : nI n - 1 = nI (n - 1) := by
      obtain ⟨k, rfl⟩ : ∃ k, n = k + 1 := ⟨n - 1, by omega⟩
      exact nI_pred k
    rw [e1, nI_clamp (by omega)]
    rw [if_neg e] at hp
    exact ⟨vp_in_nI (by omega) hr9, hp⟩

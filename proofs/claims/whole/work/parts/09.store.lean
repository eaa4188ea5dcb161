/-! ===== the store: a table with open places ===== -/
def st_h (e f : Nat) : Nat := ((((lN f * (-7046029254386353131 : Int64)).toUInt64 >>> ((40 : Int32).toInt64.toUInt64 &&& Int64.toUInt64 63)).toInt64).toInt32).toBitVec.toNat % 2 ^ e
def st_p (e f d : Nat) : Nat := (st_h e f + d) % 2 ^ e
def st_c (sl : Nat → Nat) : Nat → Nat
  | 0 => 0
  | n + 1 => st_c sl n + (if sl n = 0 then 0 else 1)
theorem st_c_all {sl : Nat → Nat} : ∀ {n : Nat}, (∀ p, p < n → sl p ≠ 0) → st_c sl n = n := by
  intro n
  induction n with
  | zero => intro _; rfl
  | succ n ih =>
    intro h
    unfold st_c
    rw [ih (fun p hp => h p (by omega)), if_neg (h n (by omega))]
theorem st_c_up {sl : Nat → Nat} {p v : Nat} (hv : v ≠ 0) (h0 : sl p = 0) : ∀ n : Nat, st_c (upN sl p v) n = st_c sl n + (if p < n then 1 else 0) := by
  intro n
  induction n with
  | zero => rfl
  | succ n ih =>
    unfold st_c
    rw [ih]
    by_cases e : n = p
    · subst e
      rw [upN_s, if_neg hv, h0, if_pos rfl, if_neg (by omega), if_pos (by omega)]
    · rw [upN_n sl v e]
      by_cases h : p < n
      · rw [if_pos h, if_pos (show p < n + 1 by omega)]; omega
      · rw [if_neg h, if_neg (show ¬ p < n + 1 by omega)]; omega
/-- every form has its place, reached over full ones; what stands there are wholes; how many places are full -/
def st_T (e sz : Nat) (F sl : Nat → Nat) : Prop :=
  (∀ p, p < 2 ^ e → sl p ≤ sz) ∧ (∀ k, k < sz → ∃ d, d < 2 ^ e ∧ sl (st_p e (F k) d) = k + 1 ∧ ∀ d', d' < d → sl (st_p e (F k) d') ≠ 0) ∧ st_c sl (2 ^ e) = sz ∧ sz < 2 ^ e
def st_S (e sz : Nat) (F sl : Nat → Nat) (f p : Nat) : Prop :=
  (sl p = 0 ∧ (∀ k, k < sz → F k ≠ f) ∧ ∃ d, d < 2 ^ e ∧ p = st_p e f d ∧ ∀ d', d' < d → sl (st_p e f d') ≠ 0) ∨ (∃ k, k < sz ∧ sl p = k + 1 ∧ F k = f)
theorem st_p_lt (e f d : Nat) : st_p e f d < 2 ^ e := Nat.mod_lt _ (Nat.two_pow_pos e)
theorem st_p_on (e f p : Nat) (hp : p < 2 ^ e) : ∃ d, d < 2 ^ e ∧ st_p e f d = p := by
  have hh : st_h e f < 2 ^ e := Nat.mod_lt _ (Nat.two_pow_pos e)
  by_cases h : st_h e f ≤ p
  · refine ⟨p - st_h e f, by omega, ?_⟩
    unfold st_p
    rw [show st_h e f + (p - st_h e f) = p by omega, Nat.mod_eq_of_lt hp]
  · refine ⟨p + 2 ^ e - st_h e f, by omega, ?_⟩
    unfold st_p
    rw [show st_h e f + (p + 2 ^ e - st_h e f) = p + 2 ^ e by omega, Nat.add_mod_right, Nat.mod_eq_of_lt hp]
theorem st_T_add {e sz : Nat} {F sl : Nat → Nat} {f p : Nat} (h : st_T e sz F sl) (hs : sz + 1 < 2 ^ e) (hp : p < 2 ^ e) (h0 : sl p = 0) (hd : ∃ d, d < 2 ^ e ∧ p = st_p e f d ∧ ∀ d', d' < d → sl (st_p e f d') ≠ 0) : st_T e (sz + 1) (upN F sz f) (upN sl p (sz + 1)) := by
  obtain ⟨h1, h2, h3, h4⟩ := h
  have nz : ∀ q, sl q ≠ 0 → upN sl p (sz + 1) q ≠ 0 := by
    intro q hq
    by_cases e1 : q = p
    · subst e1; exact absurd h0 hq
    · rw [upN_n _ _ e1]; exact hq
  refine ⟨fun q hq => ?_, fun k hk => ?_, ?_, hs⟩
  · by_cases e1 : q = p
    · subst e1; rw [upN_s]; exact Nat.le_refl _
    · rw [upN_n _ _ e1]; have := h1 q hq; omega
  · by_cases e1 : k = sz
    · subst e1
      rw [upN_s]
      obtain ⟨d, hd1, hd2, hd3⟩ := hd
      exact ⟨d, hd1, by rw [← hd2, upN_s], fun d' hd' => nz _ (hd3 d' hd')⟩
    · rw [upN_n _ _ e1]
      obtain ⟨d, hd1, hd2, hd3⟩ := h2 k (by omega)
      refine ⟨d, hd1, ?_, fun d' hd' => nz _ (hd3 d' hd')⟩
      rw [upN_n]
      · exact hd2
      · intro e2
        rw [e2, h0] at hd2
        omega
  · rw [st_c_up (by omega) h0, h3, if_pos hp]
theorem st_T_0 (e : Nat) (F : Nat → Nat) (sl : Nat → Nat) (h : ∀ p, p < 2 ^ e → sl p = 0) : st_T e 0 F sl := by
  refine ⟨fun p hp => by rw [h p hp]; exact Nat.le_refl _, fun k hk => absurd hk (by omega), ?_, Nat.two_pow_pos e⟩
  have : ∀ n, n ≤ 2 ^ e → st_c sl n = 0 := by
    intro n
    induction n with
    | zero => intro _; rfl
    | succ n ih =>
      intro hn
      unfold st_c
      rw [ih (by omega), h n (by omega), if_pos rfl]
  exact this _ (Nat.le_refl _)
def sp_St_slotOf : am_S := fun av w post => ∃ (f sz room e : Nat) (F sl : Nat → Nat) (fo : Nat → Int64) (sa : Nat → Int32), av = [aR 9, aL (lN f)] ∧ w.length = 26 ∧ w[9]? = some (cSt (nI sz)) ∧ w[10]? = some (jC room fo) ∧ w[16]? = some (iC (2 ^ e) sa) ∧ (f < 2 ^ 63) ∧ (1 ≤ e) ∧ (e ≤ 20) ∧ (sz ≤ room) ∧ (room < 2 ^ 31) ∧ (∀ k, k < sz → fo k = lN (F k) ∧ F k < 2 ^ 63) ∧ (∀ p, p < 2 ^ e → sa p = nI (sl p)) ∧ (st_T e sz F sl) ∧ (∀ p : Nat, p < 2 ^ e → st_S e sz F sl f p → post (some (aI (nI p))) w)
set_option maxRecDepth 20000 in
set_option maxHeartbeats 2000000 in
theorem c_St_slotOf : Con y_St_slotOf b_St_slotOf 6 (some .int) 0 0 0 false sp_St_slotOf := by
  refine Con.of (by decide) (fun av w post h => by obtain ⟨f, sz, room, e, F, sl, fo, sa, rfl, -⟩ := h; exact Nat.le_of_ble_eq_true rfl) ?_
  intro X K hnm av w post h hr _
  obtain ⟨f, sz, room, e, F, sl, fo, sa, rfl, hlen, hc9, hc10, hc16, hf, he, he2, hsz, hrm, hfo, hsa, hT, hp⟩ := h
  obtain ⟨c0, c1, c2, c3, c4, c5, c6, c7, c8, c9, c10, c11, c12, c13, c14, c15, c16, c17, c18, c19, c20, c21, c22, c23, c24, c25, rfl⟩ := len26 hlen
  obtain rfl : c9 = _ := Option.some.inj hc9
  obtain rfl : c10 = _ := Option.some.inj hc10
  obtain rfl : c16 = _ := Option.some.inj hc16
  have hpow : 2 ^ e ≤ 2 ^ 20 := Nat.pow_le_pow_right (by decide) he2
  have hpow1 : 2 ≤ 2 ^ e := Nat.le_trans (by decide) (Nat.pow_le_pow_right (n := 2) (by decide) he)
  obtain ⟨hT1, hT2, hT3, hT4⟩ := hT
  have elast : nI (2 ^ e) - 1 = nI (2 ^ e - 1) := by
    obtain ⟨k, hk⟩ : ∃ k, 2 ^ e = k + 1 := ⟨2 ^ e - 1, by omega⟩
    rw [hk]
    exact nI_pred k
  have emask : (nI (2 ^ e - 1)).toBitVec.toNat = 2 ^ e - 1 := pk_tn (by omega)
  refine x_St_slotOf_0 K hr ?_
  rw [elast, pk_and _ e emask]
  have key : ∀ (t i : Nat), i + t = 2 ^ e - 1 → (∀ d, d < i → sl (st_p e f d) ≠ 0 ∧ ∀ k, sl (st_p e f d) = k + 1 → F k ≠ f) → AW X 24 [some (aR 9), some (aL (lN f)), none, some (aI (nI (2 ^ e - 1))), some (aI (nI (st_p e f i))), some (aI (nI i))] [] [c0, c1, c2, c3, c4, c5, c6, c7, c8, cSt (nI sz), jC room fo, c11, c12, c13, c14, c15, iC (2 ^ e) sa, c17, c18, c19, c20, c21, c22, c23, c24, c25] 0 0 := by
    intro t
    induction t with
    | zero =>
      intro i h1 h2
      have ei : i = 2 ^ e - 1 := by omega
      refine x_St_slotOf_24 K hr ⟨fun _ => ?_, fun z => absurd (by rw [ei]; exact Int32.le_refl _) z⟩
      refine hp _ (st_p_lt e f i) (Or.inl ?_)
      have h0 : sl (st_p e f i) = 0 := by
        rcases Nat.eq_zero_or_pos (sl (st_p e f i)) with h | h
        · exact h
        · have hall : ∀ p, p < 2 ^ e → sl p ≠ 0 := by
            intro p hp9
            obtain ⟨d, hd1, hd2⟩ := st_p_on e f p hp9
            rw [← hd2]
            by_cases ed : d = i
            · subst ed; omega
            · exact (h2 d (by omega)).1
          have := st_c_all hall
          omega
      refine ⟨h0, fun k hk hF => ?_, i, by omega, rfl, fun d' hd' => (h2 d' hd').1⟩
      obtain ⟨d, hd1, hd2, hd3⟩ := hT2 k hk
      rw [hF] at hd2
      by_cases ed : d = i
      · subst ed; omega
      · exact (h2 d (by omega)).2 k hd2 hF
    | succ t ih =>
      intro i h1 h2
      have hlt := st_p_lt e f i
      have esl := hsa _ hlt
      have hsl := hT1 _ hlt
      refine x_St_slotOf_24 K hr ⟨fun z => absurd z (nI_ge (by omega) (by omega)), fun _ => ⟨vp_in_nI hlt (by omega), ?_⟩⟩
      rw [nI_clamp (by omega), esl]
      refine ⟨fun z => ?_, fun z => ⟨vp_in_nI hlt (by omega), ?_⟩⟩
      · have h0 : sl (st_p e f i) = 0 := by
          rcases Nat.eq_zero_or_pos (sl (st_p e f i)) with h | h
          · exact h
          · exact absurd z (nI_ne0 h (by omega))
        refine hp _ hlt (Or.inl ⟨h0, fun k hk hF => ?_, i, by omega, rfl, fun d' hd' => (h2 d' hd').1⟩)
        obtain ⟨d, hd1, hd2, hd3⟩ := hT2 k hk
        rw [hF] at hd2 hd3
        rcases Nat.lt_trichotomy d i with h | h | h
        · exact (h2 d h).2 k hd2 hF
        · subst h; omega
        · exact hd3 i h h0
      · obtain ⟨k, hk⟩ : ∃ k, sl (st_p e f i) = k + 1 := by
          rcases Nat.eq_zero_or_pos (sl (st_p e f i)) with h | h
          · exact absurd (by rw [h]; rfl) z
          · exact ⟨sl (st_p e f i) - 1, by omega⟩
        have e1 : nI (k + 1) - 1 = nI k := nI_pred k
        rw [hk, e1, nI_clamp (by omega), (hfo k (by omega)).1]
        have hFk := (hfo k (by omega)).2
        refine ⟨vp_in_nI (by omega) hrm, fun z2 => ?_, fun z2 => ?_⟩
        · have hF : F k = f := (pk_lEQ hFk hf).mp ((lg_cmp_eq _ _).mp z2)
          exact hp _ hlt (Or.inr ⟨k, by omega, hk, hF⟩)
        · have hF : F k ≠ f := fun h => z2 ((lg_cmp_eq _ _).mpr (by rw [h]))
          have e2 : (nI (st_p e f i) + 1) &&& nI (2 ^ e - 1) = nI (st_p e f (i + 1)) := by
            rw [nI_1, pk_and _ e emask, pk_tn (by omega)]
            unfold st_p
            rw [show st_h e f + (i + 1) = (st_h e f + i) + 1 by omega, Nat.mod_add_mod]
          rw [e2, nI_1]
          refine ih (i + 1) (by omega) (fun d hd => ?_)
          by_cases ed : d = i
          · subst ed
            refine ⟨by omega, fun k2 hk2 => ?_⟩
            have : k2 = k := by omega
            rw [this]
            exact hF
          · exact h2 d (by omega)
  have h00 : st_p e f 0 = st_h e f := by
    unfold st_p
    rw [Nat.add_zero]
    exact Nat.mod_eq_of_lt (Nat.mod_lt _ (Nat.two_pow_pos e))
  have := key (2 ^ e - 1) 0 (by omega) (fun d hd => absurd hd (by omega))
  rw [h00] at this
  exact this
def sp_St_add : am_S := fun av w post => ∃ (p l3 l4 vn vu vz vy : Int32) (sz room nsl : Nat) (vf : Int64) (fo : Nat → Int64) (le og ru sp sy sa : Nat → Int32), av = [aR 9, aI p, aR 22, aI l3, aI l4] ∧ w.length = 26 ∧ w[9]? = some (cSt (nI sz)) ∧ w[10]? = some (jC room fo) ∧ w[11]? = some (iC room le) ∧ w[12]? = some (iC room og) ∧ w[13]? = some (iC room ru) ∧ w[14]? = some (iC room sp) ∧ w[15]? = some (iC room sy) ∧ w[16]? = some (iC nsl sa) ∧ w[22]? = some (cDv vn vu vz vf vy) ∧ (sz < room) ∧ (room < 2 ^ 31) ∧ (vp_in p nsl) ∧ (post none ((((((((w.set 10 (jC room (vp_updL fo sz vf))).set 11 (iC room (upd le sz (if 0 ≤ l3 ∧ l3 < nI sz then le l3.toNatClampNeg + 1 else 0)))).set 12 (iC room (upd og sz l3))).set 13 (iC room (upd ru sz l4))).set 14 (iC room (upd sp sz (-1)))).set 15 (iC room (upd sy sz vy))).set 16 (iC nsl (upd sa p.toNatClampNeg (nI (sz + 1))))).set 9 (cSt (nI (sz + 1)))))
set_option maxRecDepth 20000 in
set_option maxHeartbeats 2000000 in
theorem c_St_add : Con y_St_add b_St_add 5 none 1 0 0 false sp_St_add := by
  refine Con.of (by decide) (fun av w post h => by obtain ⟨p, l3, l4, vn, vu, vz, vy, sz, room, nsl, vf, fo, le, og, ru, sp, sy, sa, rfl, -⟩ := h; exact Nat.le_of_ble_eq_true rfl) ?_
  intro X K hnm av w post h hr _
  obtain ⟨p, l3, l4, vn, vu, vz, vy, sz, room, nsl, vf, fo, le, og, ru, sp, sy, sa, rfl, hlen, hc9, hc10, hc11, hc12, hc13, hc14, hc15, hc16, hc22, hsz, hrm, hp9, hp⟩ := h
  obtain ⟨c0, c1, c2, c3, c4, c5, c6, c7, c8, c9, c10, c11, c12, c13, c14, c15, c16, c17, c18, c19, c20, c21, c22, c23, c24, c25, rfl⟩ := len26 hlen
  obtain rfl : c9 = _ := Option.some.inj hc9
  obtain rfl : c10 = _ := Option.some.inj hc10
  obtain rfl : c11 = _ := Option.some.inj hc11
  obtain rfl : c12 = _ := Option.some.inj hc12
  obtain rfl : c13 = _ := Option.some.inj hc13
  obtain rfl : c14 = _ := Option.some.inj hc14
  obtain rfl : c15 = _ := Option.some.inj hc15
  obtain rfl : c16 = _ := Option.some.inj hc16
  obtain rfl : c22 = _ := Option.some.inj hc22
  have hin : vp_in (nI sz) room := vp_in_nI hsz hrm
  have ecl : (nI sz).toNatClampNeg = sz := nI_clamp (by omega)
  refine x_St_add_0 K hr c_St_has (by decide) ⟨hin, ?_⟩
  rw [ecl]
  refine ⟨l3, nI sz, rfl, rfl, rfl, ?_⟩
  by_cases hc : 0 ≤ l3 ∧ l3 < nI sz
  · rw [if_pos hc] at hp
    rw [if_pos hc]
    have hl3 : vp_in l3 room := by
      rcases pk_ix l3 (n := sz) (by omega) with h | h | ⟨j, hj, rfl⟩
      · exact absurd hc.1 (Int32.not_le.mpr h)
      · exact absurd hc.2 (Int32.not_lt.mpr h)
      · exact vp_in_nI (by omega) hrm
    refine x_St_add_26 K hr ⟨fun z => absurd z (by decide), fun _ => ⟨hl3, ?_⟩⟩
    refine x_St_add_41 K hr ⟨hin, hin, hin, hin, hin, hp9, ?_⟩
    rw [ecl, nI_1]
    exact hp
  · rw [if_neg hc] at hp
    rw [if_neg hc]
    refine x_St_add_26 K hr ⟨fun _ => ?_, fun z => absurd rfl z⟩
    refine x_St_add_41 K hr ⟨hin, hin, hin, hin, hin, hp9, ?_⟩
    rw [ecl, nI_1]
    exact hp

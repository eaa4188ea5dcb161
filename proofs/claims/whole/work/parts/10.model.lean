/-! ===== CONTRACTS: the rest of Model ===== -/
def mo_B (bp : Int64) (bad : Nat → Nat → Bool) : Prop := ∀ a b, a < 8 → b < 8 → bp.toBitVec.getLsbD (8 * a + b) = bad a b
theorem mo_tp {j : Nat} : (lN (2 ^ j)).toBitVec = BitVec.twoPow 64 j := by
  apply BitVec.eq_of_toNat_eq
  rw [wb_tb, BitVec.toNat_ofNat, BitVec.toNat_twoPow]
theorem mo_and (w : Int64) (j : Nat) (hj : j < 64) : (w &&& lN (2 ^ j)) = 0 ↔ w.toBitVec.getLsbD j = false := by
  rw [← Int64.toBitVec_inj, Int64.toBitVec_and, mo_tp, BitVec.and_twoPow]
  have h0 : (0 : Int64).toBitVec = 0#64 := rfl
  rw [h0]
  cases h : w.toBitVec.getLsbD j with
  | false => simp
  | true =>
    simp only [if_true]
    constructor
    · intro e
      have := congrArg (fun z : BitVec 64 => z.getLsbD j) e
      simp [BitVec.getLsbD_twoPow, hj] at this
    · intro e; cases e
theorem mo_sh {a b : Nat} (ha : a < 8) (hb : b < 8) : (1 : Int64) <<< ((((8 : Int32) * nI a) + nI b).toInt64 &&& 63) = lN (2 ^ (8 * a + b)) := by
  have e1 : (8 : Int32) * nI a = nI (8 * a) := pk_mul 8 a
  have e2 : (1 : Int64) <<< ((nI (8 * a + b)).toInt64 &&& 63) = lN (1 * 2 ^ (8 * a + b)) := wb_shl 1 (by omega)
  rw [e1, nI_add, e2, Nat.one_mul]
def sp_Mo_isBadPair : am_S := fun av w post => ∃ (a b : Nat) (m1 m2 m3 m4 : Int32) (bp : Int64) (bad : Nat → Nat → Bool), av = [aR 1, aI (nI a), aI (nI b)] ∧ w.length = 26 ∧ w[1]? = some (cMo m1 m2 m3 m4 bp) ∧ (a < 8) ∧ (b < 8) ∧ (mo_B bp bad) ∧ (post (some (aI (if bad a b then 1 else 0))) w)
set_option maxRecDepth 20000 in
set_option maxHeartbeats 2000000 in
theorem c_Mo_isBadPair : Con y_Mo_isBadPair b_Mo_isBadPair 3 (some .boolean) 0 0 0 false sp_Mo_isBadPair := by
  refine Con.of (by decide) (fun av w post h => by obtain ⟨a, b, m1, m2, m3, m4, bp, bad, rfl, -⟩ := h; exact Nat.le_of_ble_eq_true rfl) ?_
  intro X K hnm av w post h hr _
  obtain ⟨a, b, m1, m2, m3, m4, bp, bad, rfl, hlen, hc1, ha, hb, hB, hp⟩ := h
  obtain ⟨c0, c1, c2, c3, c4, c5, c6, c7, c8, c9, c10, c11, c12, c13, c14, c15, c16, c17, c18, c19, c20, c21, c22, c23, c24, c25, rfl⟩ := len26 hlen
  obtain rfl : c1 = _ := Option.some.inj hc1
  have h1 := mo_and bp (8 * a + b) (by omega)
  refine x_Mo_isBadPair_0 K hr ⟨fun z => ?_, fun z => ?_⟩
  · rw [mo_sh ha hb] at z
    have h2 := h1.mp ((lg_cmp_eq _ _).mp z)
    rw [hB a b ha hb] at h2
    rw [h2] at hp
    exact hp
  · rw [mo_sh ha hb] at z
    cases h : bad a b with
    | true => rw [h] at hp; exact hp
    | false =>
      refine absurd ((lg_cmp_eq _ _).mpr (h1.mpr ?_)) z
      rw [hB a b ha hb]
      exact h
def sp_Mo_addBadPair : am_S := fun av w post => ∃ (a b : Nat) (m1 m2 m3 m4 : Int32) (bp : Int64) (bad : Nat → Nat → Bool), av = [aR 1, aI (nI a), aI (nI b)] ∧ w.length = 26 ∧ w[1]? = some (cMo m1 m2 m3 m4 bp) ∧ (a < 8) ∧ (b < 8) ∧ (mo_B bp bad) ∧ (∀ bp' : Int64, mo_B bp' (fun x y => bad x y || ((x == a && y == b) || (x == b && y == a))) → post none (w.set 1 (cMo m1 m2 m3 m4 bp')))
set_option maxRecDepth 20000 in
set_option maxHeartbeats 2000000 in
theorem c_Mo_addBadPair : Con y_Mo_addBadPair b_Mo_addBadPair 3 none 0 0 0 false sp_Mo_addBadPair := by
  refine Con.of (by decide) (fun av w post h => by obtain ⟨a, b, m1, m2, m3, m4, bp, bad, rfl, -⟩ := h; exact Nat.le_of_ble_eq_true rfl) ?_
  intro X K hnm av w post h hr _
  obtain ⟨a, b, m1, m2, m3, m4, bp, bad, rfl, hlen, hc1, ha, hb, hB, hp⟩ := h
  obtain ⟨c0, c1, c2, c3, c4, c5, c6, c7, c8, c9, c10, c11, c12, c13, c14, c15, c16, c17, c18, c19, c20, c21, c22, c23, c24, c25, rfl⟩ := len26 hlen
  obtain rfl : c1 = _ := Option.some.inj hc1
  refine x_Mo_addBadPair_0 K hr ?_
  rw [mo_sh ha hb, mo_sh hb ha]
  refine hp _ (fun x y hx hy => ?_)
  rw [Int64.toBitVec_or, Int64.toBitVec_or, mo_tp, mo_tp, BitVec.getLsbD_or, BitVec.getLsbD_or, BitVec.getLsbD_twoPow, BitVec.getLsbD_twoPow, hB x y hx hy]
  have e1 : (decide (8 * a + b < 64) && decide (8 * a + b = 8 * x + y)) = (x == a && y == b) := by
    rw [Bool.eq_iff_iff]
    simp
    constructor
    · intro h; omega
    · intro h; omega
  have e2 : (decide (8 * b + a < 64) && decide (8 * b + a = 8 * x + y)) = (x == b && y == a) := by
    rw [Bool.eq_iff_iff]
    simp
    constructor
    · intro h; omega
    · intro h; omega
  rw [e1, e2]
theorem sp_bw_iff {N : Nat} {bad : Nat → Nat → Bool} {st : Nat → Nat} : sp_bw N bad st = true ↔ ∃ i j, i < N ∧ j < N ∧ i ≠ j ∧ bad (st i) (st j) = true := by
  unfold sp_bw
  rw [List.any_eq_true]
  constructor
  · rintro ⟨i, hi, h⟩
    rw [List.any_eq_true] at h
    obtain ⟨j, hj, h⟩ := h
    rw [List.mem_range] at hi hj
    simp at h
    exact ⟨i, j, hi, hj, h.1, h.2⟩
  · rintro ⟨i, j, hi, hj, h1, h2⟩
    refine ⟨i, List.mem_range.mpr hi, ?_⟩
    rw [List.any_eq_true]
    refine ⟨j, List.mem_range.mpr hj, ?_⟩
    simp
    exact ⟨h1, h2⟩
def sp_Mo_isBadWhole : am_S := fun av w post => ∃ (N : Nat) (m2 m3 m4 v1 v2 v3 v5 : Int32) (bp vf : Int64) (bad : Nat → Nat → Bool) (vs : Nat → Int32) (st : Nat → Nat), av = [aR 1, aR 22] ∧ w.length = 26 ∧ w[1]? = some (cMo (nI N) m2 m3 m4 bp) ∧ w[22]? = some (cDv v1 v2 v3 vf v5) ∧ w[23]? = some (iC 4 vs) ∧ (N ≤ 4) ∧ (∀ i, i < N → vs i = nI (st i) ∧ st i < 8) ∧ (mo_B bp bad) ∧ (∀ x y, bad x y = bad y x) ∧ (post (some (aI (if sp_bw N bad st then 1 else 0))) w)
set_option maxRecDepth 20000 in
set_option maxHeartbeats 2000000 in
theorem c_Mo_isBadWhole : Con y_Mo_isBadWhole b_Mo_isBadWhole 4 (some .boolean) 1 0 0 false sp_Mo_isBadWhole := by
  refine Con.of (by decide) (fun av w post h => by obtain ⟨N, m2, m3, m4, v1, v2, v3, v5, bp, vf, bad, vs, st, rfl, -⟩ := h; exact Nat.le_of_ble_eq_true rfl) ?_
  intro X K hnm av w post h hr _
  obtain ⟨N, m2, m3, m4, v1, v2, v3, v5, bp, vf, bad, vs, st, rfl, hlen, hc1, hc22, hc23, h4, hst, hB, hsy, hp⟩ := h
  obtain ⟨c0, c1, c2, c3, c4, c5, c6, c7, c8, c9, c10, c11, c12, c13, c14, c15, c16, c17, c18, c19, c20, c21, c22, c23, c24, c25, rfl⟩ := len26 hlen
  obtain rfl : c1 = _ := Option.some.inj hc1
  obtain rfl : c22 = _ := Option.some.inj hc22
  obtain rfl : c23 = _ := Option.some.inj hc23
  refine x_Mo_isBadWhole_0 K hr ?_
  have key1 : ∀ (t i : Nat), i + t = N → (∀ a b, a < i → a < b → b < N → bad (st a) (st b) = false) → AW X 2 [some (aR 1), some (aR 22), some (aI (nI i)), none] [] [c0, cMo (nI N) m2 m3 m4 bp, c2, c3, c4, c5, c6, c7, c8, c9, c10, c11, c12, c13, c14, c15, c16, c17, c18, c19, c20, c21, cDv v1 v2 v3 vf v5, iC 4 vs, c24, c25] 0 0 := by
    intro t
    induction t with
    | zero =>
      intro i h1 h2
      have e : i = N := by omega
      subst e
      refine x_Mo_isBadWhole_2 K hr ⟨fun _ => ?_, fun z => absurd (Int32.le_refl _) z⟩
      have e2 : sp_bw i bad st = false := by
        cases h : sp_bw i bad st with
        | false => rfl
        | true =>
          obtain ⟨a, b, ha, hb, hab, h3⟩ := sp_bw_iff.mp h
          rcases Nat.lt_or_gt_of_ne hab with h5 | h5
          · rw [h2 a b ha h5 hb] at h3; cases h3
          · rw [hsy, h2 b a hb h5 ha] at h3; cases h3
      rw [e2] at hp
      exact hp
    | succ t ih =>
      intro i h1 h2
      refine x_Mo_isBadWhole_2 K hr ⟨fun z => absurd z (nI_ge (by omega) (by omega)), fun _ => ?_⟩
      have key2 : ∀ (u j : Nat), j + u = N → i < j → (∀ b, i < b → b < j → bad (st i) (st b) = false) → AW X 14 [some (aR 1), some (aR 22), some (aI (nI i)), some (aI (nI j))] [] [c0, cMo (nI N) m2 m3 m4 bp, c2, c3, c4, c5, c6, c7, c8, c9, c10, c11, c12, c13, c14, c15, c16, c17, c18, c19, c20, c21, cDv v1 v2 v3 vf v5, iC 4 vs, c24, c25] 0 0 := by
        intro u
        induction u with
        | zero =>
          intro j g1 g2 g3
          have e : j = N := by omega
          refine x_Mo_isBadWhole_14 K hr c_Mo_isBadPair (by decide) ⟨fun _ => ?_, fun z => absurd (by rw [e]; exact Int32.le_refl _) z⟩
          rw [nI_1]
          refine ih (i + 1) (by omega) (fun a b ha hab hb => ?_)
          by_cases e2 : a = i
          · subst e2; exact g3 b hab (by omega)
          · exact h2 a b (by omega) hab hb
        | succ u ihu =>
          intro j g1 g2 g3
          refine x_Mo_isBadWhole_14 K hr c_Mo_isBadPair (by decide) ⟨fun z => absurd z (nI_ge (by omega) (by omega)), fun _ => ⟨vp_in_nI (by omega) (by decide), vp_in_nI (by omega) (by decide), ?_⟩⟩
          rw [nI_clamp (by omega), nI_clamp (by omega), (hst i (by omega)).1, (hst j (by omega)).1]
          refine ⟨st i, st j, _, _, _, _, bp, bad, rfl, rfl, rfl, (hst i (by omega)).2, (hst j (by omega)).2, hB, ?_⟩
          refine x_Mo_isBadWhole_38 K hr ⟨fun z => ?_, fun z => ?_⟩
          · have hf : bad (st i) (st j) = false := by
              cases h : bad (st i) (st j) with
              | false => rfl
              | true => rw [h] at z; exact absurd z (by decide)
            rw [nI_1]
            refine ihu (j + 1) (by omega) (by omega) (fun b hb1 hb2 => ?_)
            by_cases e2 : b = j
            · subst e2; exact hf
            · exact g3 b hb1 (by omega)
          · have ht : bad (st i) (st j) = true := by
              cases h : bad (st i) (st j) with
              | true => rfl
              | false => rw [h] at z; exact absurd rfl z
            rw [sp_bw_iff.mpr ⟨i, j, by omega, by omega, by omega, ht⟩] at hp
            exact hp
      rw [nI_1]
      exact key2 (N - (i + 1)) (i + 1) (by omega) (by omega) (fun b hb1 hb2 => absurd hb2 (by omega))
  exact key1 N 0 (by omega) (fun a b ha => absurd ha (by omega))
def sp_Mo_addRule : am_S := fun av w post => ∃ (n : Nat) (s v t m1 m2 m3 : Int32) (bp : Int64) (ms me mt mg : Nat → Int32), av = [aR 1, aI s, aI v, aI t] ∧ w.length = 26 ∧ w[1]? = some (cMo m1 m2 m3 (nI n) bp) ∧ w[2]? = some (iC 40 ms) ∧ w[3]? = some (iC 40 me) ∧ w[4]? = some (iC 40 mt) ∧ w[8]? = some (iC 40 mg) ∧ (n < 40) ∧ (post (some (aI (nI n))) (((((w.set 2 (iC 40 (upd ms n s))).set 3 (iC 40 (upd me n v))).set 4 (iC 40 (upd mt n t))).set 8 (iC 40 (upd mg n (if v = (-1) then 0 else (-1))))).set 1 (cMo m1 m2 m3 (nI (n + 1)) bp)))
set_option maxRecDepth 20000 in
set_option maxHeartbeats 2000000 in
theorem c_Mo_addRule : Con y_Mo_addRule b_Mo_addRule 4 (some .int) 0 0 0 false sp_Mo_addRule := by
  refine Con.of (by decide) (fun av w post h => by obtain ⟨n, s, v, t, m1, m2, m3, bp, ms, me, mt, mg, rfl, -⟩ := h; exact Nat.le_of_ble_eq_true rfl) ?_
  intro X K hnm av w post h hr _
  obtain ⟨n, s, v, t, m1, m2, m3, bp, ms, me, mt, mg, rfl, hlen, hc1, hc2, hc3, hc4, hc8, hn, hp⟩ := h
  obtain ⟨c0, c1, c2, c3, c4, c5, c6, c7, c8, c9, c10, c11, c12, c13, c14, c15, c16, c17, c18, c19, c20, c21, c22, c23, c24, c25, rfl⟩ := len26 hlen
  obtain rfl : c1 = _ := Option.some.inj hc1
  obtain rfl : c2 = _ := Option.some.inj hc2
  obtain rfl : c3 = _ := Option.some.inj hc3
  obtain rfl : c4 = _ := Option.some.inj hc4
  obtain rfl : c8 = _ := Option.some.inj hc8
  have hin : vp_in (nI n) 40 := vp_in_nI hn (by decide)
  have ecl : (nI n).toNatClampNeg = n := nI_clamp (by omega)
  refine x_Mo_addRule_0 K hr ⟨hin, hin, hin, fun z => ?_, fun z => ?_⟩
  · rw [if_neg z] at hp
    refine x_Mo_addRule_48 K hr ⟨hin, ?_⟩
    rw [ecl, nI_1]
    exact hp
  · rw [if_pos z] at hp
    refine x_Mo_addRule_48 K hr ⟨hin, ?_⟩
    rw [ecl, nI_1]
    exact hp
def sp_Mo_addSend : am_S := fun av w post => ∃ (r c : Nat) (k v m1 m2 m3 m4 : Int32) (bp : Int64) (mn mk mw mg : Nat → Int32), av = [aR 1, aI (nI r), aI k, aI v] ∧ w.length = 26 ∧ w[1]? = some (cMo m1 m2 m3 m4 bp) ∧ w[5]? = some (iC 40 mn) ∧ w[6]? = some (iC 160 mk) ∧ w[7]? = some (iC 160 mw) ∧ w[8]? = some (iC 40 mg) ∧ (r < 40) ∧ (c < 4) ∧ (mn r = nI c) ∧ (post (some (aI (nI (c + 1)))) ((((w.set 6 (iC 160 (upd mk (4 * r + c) k))).set 7 (iC 160 (upd mw (4 * r + c) v))).set 5 (iC 40 (upd mn r (nI (c + 1))))).set 8 (iC 40 (upd mg r (mg r + (if v = 0 then 1 else m1 - 1))))))
set_option maxRecDepth 20000 in
set_option maxHeartbeats 2000000 in
theorem c_Mo_addSend : Con y_Mo_addSend b_Mo_addSend 5 (some .int) 0 0 0 false sp_Mo_addSend := by
  refine Con.of (by decide) (fun av w post h => by obtain ⟨r, c, k, v, m1, m2, m3, m4, bp, mn, mk, mw, mg, rfl, -⟩ := h; exact Nat.le_of_ble_eq_true rfl) ?_
  intro X K hnm av w post h hr _
  obtain ⟨r, c, k, v, m1, m2, m3, m4, bp, mn, mk, mw, mg, rfl, hlen, hc1, hc5, hc6, hc7, hc8, hr4, hc, hmn, hp⟩ := h
  obtain ⟨c0, c1, c2, c3, c4, c5, c6, c7, c8, c9, c10, c11, c12, c13, c14, c15, c16, c17, c18, c19, c20, c21, c22, c23, c24, c25, rfl⟩ := len26 hlen
  obtain rfl : c1 = _ := Option.some.inj hc1
  obtain rfl : c5 = _ := Option.some.inj hc5
  obtain rfl : c6 = _ := Option.some.inj hc6
  obtain rfl : c7 = _ := Option.some.inj hc7
  obtain rfl : c8 = _ := Option.some.inj hc8
  have hin : vp_in (nI r) 40 := vp_in_nI hr4 (by decide)
  have ecl : (nI r).toNatClampNeg = r := nI_clamp (by omega)
  have e1 : (nI r * (4 : Int32)) + mn r = nI (4 * r + c) := by
    have : nI r * (4 : Int32) = nI (r * 4) := pk_mul r 4
    rw [this, hmn, nI_add]
    congr 1
    omega
  have hin2 : vp_in (nI (4 * r + c)) 160 := vp_in_nI (by omega) (by decide)
  have ecl2 : (nI (4 * r + c)).toNatClampNeg = 4 * r + c := nI_clamp (by omega)
  refine x_Mo_addSend_0 K hr ?_
  rw [ecl, e1, ecl2]
  refine ⟨hin, hin2, hin2, hin, fun z => ?_, fun z => ?_⟩
  · rw [if_neg z] at hp
    refine x_Mo_addSend_49 K hr ⟨hin, hin, hin, ?_⟩
    rw [ecl, hmn, nI_1]
    exact hp
  · rw [if_pos z] at hp
    refine x_Mo_addSend_49 K hr ⟨hin, hin, hin, ?_⟩
    rw [ecl, hmn, nI_1]
    exact hp

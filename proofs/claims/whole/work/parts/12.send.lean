/-! ===== CONTRACTS: Explorer.send, Explorer.take ===== -/
theorem sp_fl : ∀ N, N < 5 → ∀ s, s < N → ((List.range N).filter (fun t => !(t == s))).length = N - 1 ∧ (List.range N).filter (fun t => t == s) = [s] := by decide +kernel
theorem sp_s1_len {R : sp_R} {node p s : Nat} (hN : rN R < 5) (hn : node < rN R) : (sp_s1 R node p s).length = if rW R p = 0 then 1 else rN R - 1 := by
  unfold sp_s1
  split
  · rfl
  · rw [List.length_map]
    exact (sp_fl _ hN _ hn).1
theorem sp_sn_len {R : sp_R} {node r s : Nat} (hN : rN R < 5) (hn : node < rN R) : ∀ n : Nat, (sp_sn R node r s n).length = sp_gw R r n := by
  intro n
  induction n with
  | zero => rfl
  | succ n ih =>
    unfold sp_sn sp_gw
    rw [List.length_append, ih, sp_s1_len hN hn]
theorem sp_gw_le {R : sp_R} {r : Nat} : ∀ {m n : Nat}, n ≤ m → sp_gw R r n ≤ sp_gw R r m := by
  intro m
  induction m with
  | zero => intro n h; have : n = 0 := by omega
            subst this; exact Nat.le_refl _
  | succ m ih =>
    intro n h
    by_cases e : n = m + 1
    · subst e; exact Nat.le_refl _
    · have := ih (n := n) (by omega)
      show _ ≤ sp_gw R r m + _
      omega
/-- those that are sent up to a node -/
def sp_pt (R : sp_R) (node p s t : Nat) : List Nat := ((List.range t).filter (fun x => if rW R p = 0 then x == s else !(x == node))).map (fun t => 16 * rk R p + 4 * node + t)
theorem sp_pt_s (R : sp_R) (node p s t : Nat) : sp_pt R node p s (t + 1) = sp_pt R node p s t ++ (if (if rW R p = 0 then t == s else !(t == node)) = true then [16 * rk R p + 4 * node + t] else []) := by
  unfold sp_pt
  rw [List.range_succ, List.filter_append, List.map_append]
  congr 1
  by_cases h : (if rW R p = 0 then t == s else !(t == node)) = true
  · rw [if_pos h]
    simp [List.filter_cons, h]
  · rw [if_neg h]
    simp [List.filter_cons, h]
theorem sp_pt_N {R : sp_R} {node p s : Nat} (hN : rN R < 5) (hs : rW R p = 0 → s < rN R) : sp_pt R node p s (rN R) = sp_s1 R node p s := by
  unfold sp_pt sp_s1
  by_cases h : rW R p = 0
  · simp only [h, if_true]
    rw [(sp_fl _ hN _ (hs h)).2]
    rfl
  · simp only [h, if_false]
theorem sp_pt_le (R : sp_R) (node p s : Nat) : ∀ {m n : Nat}, n ≤ m → (sp_pt R node p s n).length ≤ (sp_pt R node p s m).length := by
  intro m
  induction m with
  | zero => intro n h; have : n = 0 := by omega
            subst this; exact Nat.le_refl _
  | succ m ih =>
    intro n h
    by_cases e : n = m + 1
    · subst e; exact Nat.le_refl _
    · have := ih (n := n) (by omega)
      rw [sp_pt_s, List.length_append]
      omega
def sp_Ex_send : am_S := fun av w post => ∃ (R : sp_R) (node r s : Nat) (l3 m2 m3 m4 v1 v2 v5 x1 x2 x3 x4 x5 x6 x7 : Int32) (bp vf : Int64) (mn mk mw vc : Nat → Int32) (cs0 : List Nat), av = [aR 17, aI (nI node), aI (nI r), aI l3] ∧ w.length = 26 ∧ w[1]? = some (cMo (nI (rN R)) m2 m3 m4 bp) ∧ w[5]? = some (iC 40 mn) ∧ w[6]? = some (iC 160 mk) ∧ w[7]? = some (iC 160 mw) ∧ w[17]? = some (cEx x1 x2 x3 x4 x5 x6 x7) ∧ w[22]? = some (cDv v1 v2 (nI cs0.length) vf v5) ∧ w[24]? = some (iC 7 vc) ∧ (rN R < 5) ∧ (node < rN R) ∧ (r < 40) ∧ (rC R r ≤ 4) ∧ (mn r = nI (rC R r)) ∧ (∀ i, i < rC R r → mk (4 * r + i) = nI (rk R (4 * r + i)) ∧ mw (4 * r + i) = nI (rW R (4 * r + i)) ∧ rW R (4 * r + i) < 2) ∧ (∀ i, i < rC R r → rW R (4 * r + i) = 0 → l3 = nI s ∧ s < rN R) ∧ (ar_is vc 0 cs0) ∧ (cs0.length + sp_gw R r (rC R r) ≤ 7) ∧ (∀ vc' : Nat → Int32, ar_is vc' 0 (cs0 ++ sp_sn R node r s (rC R r)) → post none ((w.set 24 (iC 7 vc')).set 22 (cDv v1 v2 (nI (cs0.length + sp_gw R r (rC R r))) vf v5)))
set_option maxRecDepth 20000 in
set_option maxHeartbeats 2000000 in
theorem c_Ex_send : Con y_Ex_send b_Ex_send 7 none 1 0 0 false sp_Ex_send := by
  refine Con.of (by decide) (fun av w post h => by obtain ⟨R, node, r, s, l3, m2, m3, m4, v1, v2, v5, x1, x2, x3, x4, x5, x6, x7, bp, vf, mn, mk, mw, vc, cs0, rfl, -⟩ := h; exact Nat.le_of_ble_eq_true rfl) ?_
  intro X K hnm av w post h hr _
  obtain ⟨R, node, r, s, l3, m2, m3, m4, v1, v2, v5, x1, x2, x3, x4, x5, x6, x7, bp, vf, mn, mk, mw, vc, cs0, rfl, hlen, hc1, hc5, hc6, hc7, hc17, hc22, hc24, hN, hnode, hr40, hC4, hmn, hmk, hsn, hc, h7, hp⟩ := h
  obtain ⟨c0, c1, c2, c3, c4, c5, c6, c7, c8, c9, c10, c11, c12, c13, c14, c15, c16, c17, c18, c19, c20, c21, c22, c23, c24, c25, rfl⟩ := len26 hlen
  obtain rfl : c1 = _ := Option.some.inj hc1
  obtain rfl : c5 = _ := Option.some.inj hc5
  obtain rfl : c6 = _ := Option.some.inj hc6
  obtain rfl : c7 = _ := Option.some.inj hc7
  obtain rfl : c17 = _ := Option.some.inj hc17
  obtain rfl : c22 = _ := Option.some.inj hc22
  obtain rfl : c24 = _ := Option.some.inj hc24
  have hin : vp_in (nI r) 40 := vp_in_nI hr40 (by decide)
  have ecl : (nI r).toNatClampNeg = r := nI_clamp (by omega)
  have e4 : nI r * (4 : Int32) = nI (4 * r) := by
    have : nI r * (4 : Int32) = nI (r * 4) := pk_mul r 4
    rw [this, Nat.mul_comm]
  refine x_Ex_send_0 K hr ?_
  rw [e4]
  have key : ∀ (t i : Nat) (a : Nat → Int32), i + t = rC R r → ar_is a 0 (cs0 ++ sp_sn R node r s i) → AW X 9 [some (aR 17), some (aI (nI node)), some (aI (nI r)), some (aI l3), some (aI (nI (4 * r))), some (aI (nI (4 * r + i))), none] [] [c0, cMo (nI (rN R)) m2 m3 m4 bp, c2, c3, c4, iC 40 mn, iC 160 mk, iC 160 mw, c8, c9, c10, c11, c12, c13, c14, c15, c16, cEx x1 x2 x3 x4 x5 x6 x7, c18, c19, c20, c21, cDv v1 v2 (nI (cs0.length + sp_gw R r i)) vf v5, c23, iC 7 a, c25] 0 0 := by
    intro t
    induction t with
    | zero =>
      intro i a h1 ha
      have e : i = rC R r := by omega
      subst e
      refine x_Ex_send_9 K hr ⟨hin, ?_⟩
      rw [ecl, hmn, nI_add]
      refine ⟨fun _ => hp a ha, fun z => absurd (Int32.le_refl _) z⟩
    | succ t ih =>
      intro i a h1 ha
      refine x_Ex_send_9 K hr ⟨hin, ?_⟩
      rw [ecl, hmn, nI_add]
      refine ⟨fun z => absurd z (nI_ge (by omega) (by omega)), fun _ => ?_⟩
      obtain ⟨hk1, hk2, hk3⟩ := hmk i (by omega)
      have hgw : cs0.length + sp_gw R r (i + 1) ≤ 7 := by
        have := sp_gw_le (R := R) (r := r) (m := rC R r) (n := i + 1) (by omega)
        omega
      have hsn_i : rW R (4 * r + i) = 0 → s < rN R := fun h => (hsn i (by omega) h).2
      have hlen1 : (sp_pt R node (4 * r + i) s (rN R)).length + sp_gw R r i = sp_gw R r (i + 1) := by
        rw [sp_pt_N hN hsn_i, sp_s1_len hN hnode]
        show _ = sp_gw R r i + _
        omega
      have hlen0 : (cs0 ++ sp_sn R node r s i).length = cs0.length + sp_gw R r i := by
        rw [List.length_append, sp_sn_len hN hnode]
      have inner : ∀ (u x : Nat) (b : Nat → Int32), x + u = rN R → ar_is b 0 ((cs0 ++ sp_sn R node r s i) ++ sp_pt R node (4 * r + i) s x) → AW X 29 [some (aR 17), some (aI (nI node)), some (aI (nI r)), some (aI l3), some (aI (nI (4 * r))), some (aI (nI (4 * r + i))), some (aI (nI x))] [] [c0, cMo (nI (rN R)) m2 m3 m4 bp, c2, c3, c4, iC 40 mn, iC 160 mk, iC 160 mw, c8, c9, c10, c11, c12, c13, c14, c15, c16, cEx x1 x2 x3 x4 x5 x6 x7, c18, c19, c20, c21, cDv v1 v2 (nI ((cs0 ++ sp_sn R node r s i) ++ sp_pt R node (4 * r + i) s x).length) vf v5, c23, iC 7 b, c25] 0 0 := by
        intro u
        induction u with
        | zero =>
          intro x b g1 hb
          have e : x = rN R := by omega
          refine x_Ex_send_29 K hr ⟨fun _ => ?_, fun z => absurd (by rw [e]; exact Int32.le_refl _) z⟩
          rw [e] at hb ⊢
          have e2 : ((cs0 ++ sp_sn R node r s i) ++ sp_pt R node (4 * r + i) s (rN R)).length = cs0.length + sp_gw R r (i + 1) := by
            rw [List.length_append, hlen0]
            omega
          rw [e2, nI_1]
          refine ih (i + 1) b (by omega) ?_
          rw [sp_pt_N hN hsn_i, List.append_assoc] at hb
          exact hb
        | succ u ihu =>
          intro x b g1 hb
          have hle := sp_pt_le R node (4 * r + i) s (m := rN R) (n := x + 1) (by omega)
          have next : ∀ b' : Nat → Int32, ar_is b' 0 ((cs0 ++ sp_sn R node r s i) ++ sp_pt R node (4 * r + i) s (x + 1)) → AW X 89 [some (aR 17), some (aI (nI node)), some (aI (nI r)), some (aI l3), some (aI (nI (4 * r))), some (aI (nI (4 * r + i))), some (aI (nI x))] [] [c0, cMo (nI (rN R)) m2 m3 m4 bp, c2, c3, c4, iC 40 mn, iC 160 mk, iC 160 mw, c8, c9, c10, c11, c12, c13, c14, c15, c16, cEx x1 x2 x3 x4 x5 x6 x7, c18, c19, c20, c21, cDv v1 v2 (nI ((cs0 ++ sp_sn R node r s i) ++ sp_pt R node (4 * r + i) s (x + 1)).length) vf v5, c23, iC 7 b', c25] 0 0 := by
            intro b' hb'
            refine x_Ex_send_89 K hr ?_
            rw [nI_1]
            exact ihu (x + 1) b' (by omega) hb'
          have skip : (if rW R (4 * r + i) = 0 then x == s else !(x == node)) = false → AW X 89 [some (aR 17), some (aI (nI node)), some (aI (nI r)), some (aI l3), some (aI (nI (4 * r))), some (aI (nI (4 * r + i))), some (aI (nI x))] [] [c0, cMo (nI (rN R)) m2 m3 m4 bp, c2, c3, c4, iC 40 mn, iC 160 mk, iC 160 mw, c8, c9, c10, c11, c12, c13, c14, c15, c16, cEx x1 x2 x3 x4 x5 x6 x7, c18, c19, c20, c21, cDv v1 v2 (nI ((cs0 ++ sp_sn R node r s i) ++ sp_pt R node (4 * r + i) s x).length) vf v5, c23, iC 7 b, c25] 0 0 := by
            intro hf
            have h9 := next b
            rw [sp_pt_s, if_neg (by rw [hf]; decide), List.append_nil] at h9
            exact h9 hb
          have addit : (if rW R (4 * r + i) = 0 then x == s else !(x == node)) = true → AW X 69 [some (aR 17), some (aI (nI node)), some (aI (nI r)), some (aI l3), some (aI (nI (4 * r))), some (aI (nI (4 * r + i))), some (aI (nI x))] [] [c0, cMo (nI (rN R)) m2 m3 m4 bp, c2, c3, c4, iC 40 mn, iC 160 mk, iC 160 mw, c8, c9, c10, c11, c12, c13, c14, c15, c16, cEx x1 x2 x3 x4 x5 x6 x7, c18, c19, c20, c21, cDv v1 v2 (nI ((cs0 ++ sp_sn R node r s i) ++ sp_pt R node (4 * r + i) s x).length) vf v5, c23, iC 7 b, c25] 0 0 := by
            intro ht
            refine x_Ex_send_69 K hr c_Dr_addCode (by decide) ⟨vp_in_nI (by omega) (by decide), ?_⟩
            rw [nI_clamp (by omega), hk1]
            have e3 : sp_pt R node (4 * r + i) s (x + 1) = sp_pt R node (4 * r + i) s x ++ [16 * rk R (4 * r + i) + 4 * node + x] := by
              rw [sp_pt_s, if_pos ht]
            have hlt : ((cs0 ++ sp_sn R node r s i) ++ sp_pt R node (4 * r + i) s x).length < 7 := by
              rw [e3, List.length_append] at hle
              rw [List.length_append, hlen0]
              simp at hle
              omega
            refine ⟨rk R (4 * r + i), node, x, _, _, _, _, b, ((cs0 ++ sp_sn R node r s i) ++ sp_pt R node (4 * r + i) s x), rfl, rfl, rfl, rfl, hb, hlt, fun b' hb' => ?_⟩
            have h9 := next b'
            rw [e3, ← List.append_assoc] at h9
            have h10 := h9 hb'
            have e5 : (cs0 ++ sp_sn R node r s i ++ sp_pt R node (4 * r + i) s x ++ [16 * rk R (4 * r + i) + 4 * node + x]).length = ((cs0 ++ sp_sn R node r s i) ++ sp_pt R node (4 * r + i) s x).length + 1 := by
              rw [List.length_append]
              rfl
            rw [e5] at h10
            exact h10
          refine x_Ex_send_29 K hr ⟨fun z => absurd z (nI_ge (by omega) (by omega)), fun _ => ⟨vp_in_nI (by omega) (by decide), ?_⟩⟩
          rw [nI_clamp (by omega), hk2]
          refine ⟨fun z => ⟨fun z2 => ?_, fun z2 => ?_⟩, fun z => ⟨fun z2 => ?_, fun z2 => ?_⟩⟩
          · have hw : ¬ rW R (4 * r + i) = 0 := fun h => z (by rw [h]; rfl)
            have ex : x = node := (nI_eq (by omega) (by omega)).mp z2
            exact skip (by rw [if_neg hw, ex]; simp)
          · have hw : ¬ rW R (4 * r + i) = 0 := fun h => z (by rw [h]; rfl)
            have ex : ¬ x = node := fun h => z2 (by rw [h])
            exact addit (by rw [if_neg hw]; simp [ex])
          · have hw : rW R (4 * r + i) = 0 := (nI_eq (b := 0) (by omega) (by decide)).mp z
            obtain ⟨el, hs⟩ := hsn i (by omega) hw
            have ex : ¬ x = s := fun h => z2 (by rw [h, el])
            exact skip (by rw [if_pos hw]; simp [ex])
          · have hw : rW R (4 * r + i) = 0 := (nI_eq (b := 0) (by omega) (by decide)).mp z
            obtain ⟨el, hs⟩ := hsn i (by omega) hw
            rw [el] at z2
            have ex : x = s := (nI_eq (by omega) (by omega)).mp z2
            exact addit (by rw [if_pos hw]; simp [ex])
      have h9 := inner (rN R) 0 a (by omega) (by
        show ar_is a 0 ((cs0 ++ sp_sn R node r s i) ++ [])
        rw [List.append_nil]
        exact ha)
      have e6 : ((cs0 ++ sp_sn R node r s i) ++ sp_pt R node (4 * r + i) s 0).length = cs0.length + sp_gw R r i := by
        show ((cs0 ++ sp_sn R node r s i) ++ []).length = _
        rw [List.append_nil, hlen0]
      rw [e6] at h9
      exact h9
  have h9 := key (rC R r) 0 vc (by omega) (by
    show ar_is vc 0 (cs0 ++ [])
    rw [List.append_nil]
    exact hc)
  exact h9
def sp_Ex_take : am_S := fun av w post => ∃ (p l3 l4 m2 m3 m4 en go st ol sk sd he vu : Int32) (N sz room nsl y : Nat) (vz : Int32) (bp vf : Int64) (bad : Nat → Nat → Bool) (sv : Nat → Nat) (fo : Nat → Int64) (le og ru sp sy sa vs : Nat → Int32), av = [aR 17, aI p, aI l3, aI l4] ∧ w.length = 26 ∧ w[1]? = some (cMo (nI N) m2 m3 m4 bp) ∧ w[9]? = some (cSt (nI sz)) ∧ w[10]? = some (jC room fo) ∧ w[11]? = some (iC room le) ∧ w[12]? = some (iC room og) ∧ w[13]? = some (iC room ru) ∧ w[14]? = some (iC room sp) ∧ w[15]? = some (iC room sy) ∧ w[16]? = some (iC nsl sa) ∧ w[17]? = some (cEx en go st ol sk sd he) ∧ w[22]? = some (cDv (nI N) vu vz vf (nI y)) ∧ w[23]? = some (iC 4 vs) ∧ (sz < room) ∧ (room < 2 ^ 31) ∧ (vp_in p nsl) ∧ (1 ≤ y) ∧ (y ≤ 24) ∧ (N ≤ 4) ∧ (∀ i, i < N → vs i = nI (sv i) ∧ sv i < 8) ∧ (mo_B bp bad) ∧ (∀ x y, bad x y = bad y x) ∧ (post none (((((((((w.set 10 (jC room (vp_updL fo sz vf))).set 11 (iC room (upd le sz (if 0 ≤ l3 ∧ l3 < nI sz then le l3.toNatClampNeg + 1 else 0)))).set 12 (iC room (upd og sz l3))).set 13 (iC room (upd ru sz l4))).set 14 (iC room (upd sp sz (-1)))).set 15 (iC room (upd sy sz (nI y)))).set 16 (iC nsl (upd sa p.toNatClampNeg (nI (sz + 1))))).set 9 (cSt (nI (sz + 1)))).set 17 (cEx (if sp_bw N bad sv then (-2) else en) go st ol sk (sd + vu / nI y) he)))
set_option maxRecDepth 20000 in
set_option maxHeartbeats 2000000 in
theorem c_Ex_take : Con y_Ex_take b_Ex_take 4 none 2 0 0 false sp_Ex_take := by
  refine Con.of (by decide) (fun av w post h => by obtain ⟨p, l3, l4, m2, m3, m4, en, go, st, ol, sk, sd, he, vu, N, sz, room, nsl, y, vz, bp, vf, bad, sv, fo, le, og, ru, sp, sy, sa, vs, rfl, -⟩ := h; exact Nat.le_of_ble_eq_true rfl) ?_
  intro X K hnm av w post h hr _
  obtain ⟨p, l3, l4, m2, m3, m4, en, go, st, ol, sk, sd, he, vu, N, sz, room, nsl, y, vz, bp, vf, bad, sv, fo, le, og, ru, sp, sy, sa, vs, rfl, hlen, hc1, hc9, hc10, hc11, hc12, hc13, hc14, hc15, hc16, hc17, hc22, hc23, hsz, hrm, hp9, hy1, hy2, h4, hst, hB, hsy, hp⟩ := h
  obtain ⟨c0, c1, c2, c3, c4, c5, c6, c7, c8, c9, c10, c11, c12, c13, c14, c15, c16, c17, c18, c19, c20, c21, c22, c23, c24, c25, rfl⟩ := len26 hlen
  obtain rfl : c1 = _ := Option.some.inj hc1
  obtain rfl : c9 = _ := Option.some.inj hc9
  obtain rfl : c10 = _ := Option.some.inj hc10
  obtain rfl : c11 = _ := Option.some.inj hc11
  obtain rfl : c12 = _ := Option.some.inj hc12
  obtain rfl : c13 = _ := Option.some.inj hc13
  obtain rfl : c14 = _ := Option.some.inj hc14
  obtain rfl : c15 = _ := Option.some.inj hc15
  obtain rfl : c16 = _ := Option.some.inj hc16
  obtain rfl : c17 = _ := Option.some.inj hc17
  obtain rfl : c22 = _ := Option.some.inj hc22
  obtain rfl : c23 = _ := Option.some.inj hc23
  refine x_Ex_take_0 K hr c_St_add (by decide) ?_
  refine ⟨p, l3, l4, _, _, _, _, sz, room, nsl, vf, fo, le, og, ru, sp, sy, sa, rfl, rfl, rfl, rfl, rfl, rfl, rfl, rfl, rfl, rfl, rfl, hsz, hrm, hp9, ?_⟩
  refine x_Ex_take_14 K hr ⟨fun z => absurd z (nI_nle (by omega) (by omega)), fun _ => ⟨nI_ne0 (by omega) (by omega), ?_⟩⟩
  refine x_Ex_take_48 K hr c_Mo_isBadWhole (by decide) ?_
  refine ⟨N, _, _, _, _, _, _, _, bp, vf, bad, vs, sv, rfl, rfl, rfl, rfl, rfl, h4, hst, hB, hsy, ?_⟩
  cases hb : sp_bw N bad sv with
  | true =>
    rw [hb] at hp
    exact x_Ex_take_59 K hr ⟨fun z => absurd z (by decide), fun _ => hp⟩
  | false =>
    rw [hb] at hp
    exact x_Ex_take_59 K hr ⟨fun _ => hp, fun z => absurd rfl z⟩

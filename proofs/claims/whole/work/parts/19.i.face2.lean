/-! ===== THE REFERENCE's face, the rest ===== -/
theorem x8 (a b : Nat) : ((8 : Int32) * nI a) + nI b = nI (8 * a + b) := by
  have h : nI 8 * nI a + nI b = nI (8 * a + b) := by rw [pk_mul, nI_add]
  exact h
def sp_RM_bad : am_S := fun av w post => ∃ (R : sp_R) (room : Nat) (E : sp_E) (th a b : Int32), av = [aR 0, aI a, aI b] ∧ w.length = 19 ∧ (rm R room E th w) ∧ (∀ w' : List am_C, rm (o_bad R E a b).2.1 room (o_bad R E a b).2.2 (nI (o_bad R E a b).1.1) w' → post (some (aI (o_bad R E a b).1.2)) w')
set_option maxRecDepth 20000 in
set_option maxHeartbeats 2000000 in
theorem c_RM_bad : Con y_RM_bad b_RM_bad 3 (some .boolean) 1 0 0 false sp_RM_bad := by
  refine Con.of (by decide) (fun av w post h => by obtain ⟨R, room, E, th, a, b, rfl, -⟩ := h; exact Nat.le_of_ble_eq_true rfl) ?_
  intro X K hnm av w post h hr _
  obtain ⟨R, room, E, th, a, b, rfl, hlen, hw, hp⟩ := h
  obtain ⟨c0, c1, c2, c3, c4, c5, c6, c7, c8, c9, c10, c11, c12, c13, c14, c15, c16, c17, c18, rfl⟩ := len19 hlen
  have hw0 := hw
  obtain ⟨hR, hE, hro, -⟩ := rm_vs hw
  have hb := hR.1
  have hzr := hE.1.1
  obtain ⟨sm, at9, o, nx, ls, bw, xf, xe, xt, xn, xk, xw, xb, nm, ro, od, le, pa, br, so, al, ot, hwe, -, -, -, hA, hN, hS, hO, hbw⟩ := hw
  rw [hwe] at hw0 ⊢
  clear hwe
  unfold o_bad at hp
  have k23 : o_bad1 R a b → AW X 23 [some (aR 0), some (aI a), some (aI b)] [aR 0] [cRM th (nI (rN R)) (nI room) (nI (rS R)) (nI (rK R)) (nI (rU R)) (nI (sp_fc (rN R))) (nI (eZ E)) (nI (eG E)) (nI (eT E)) (nI (eO E)) (nI (eK E)) (rc_en (eN E)) bw sm at9, iC 40 xf, iC 40 xe, iC 40 xt, iC 40 xn, iC 160 xk, iC 160 xw, zC 64 xb, iC 96 nm, iC 98304 ro, iC 8192 od, iC 8192 le, iC 8192 pa, iC 8192 br, iC 8192 so, iC 8192 al, iC 12 nx, iC 12 ot, iC 12 ls] 0 0 := by
    intro h1
    rw [if_pos h1] at hp
    refine x_RM_bad_23 K hr ?_
    refine x_RM_bad_28 K hr c_RM_throwing (by decide) ?_
    refine ⟨1, 0, th, _, _, _, _, _, _, _, _, _, _, _, _, bw, _, _, rfl, rfl, rfl, ?_⟩
    refine x_RM_bad_32 K hr c_RM_forget (by decide) ⟨fun z => absurd z (by decide), fun _ => ?_⟩
    exact hp _ (rm_th 1 hw0)
  refine x_RM_bad_0 K hr c_RM_isOf (by decide) ?_
  refine ⟨a, _, rfl, rfl, ?_⟩
  by_cases h1 : o_in a (rS R)
  · rw [if_pos h1]
    refine x_RM_bad_9 K hr c_RM_isOf (by decide) ⟨fun z => absurd z (by decide), fun _ => ?_⟩
    refine ⟨b, _, rfl, rfl, ?_⟩
    by_cases h2 : o_in b (rS R)
    · rw [if_pos h2]
      have hno : ¬ o_bad1 R a b := fun q => by rcases q with q | q; exact q h1; exact q h2
      rw [if_neg hno] at hp
      obtain ⟨e1, l1⟩ := o_in_nat (by omega) h1
      obtain ⟨e2, l2⟩ := o_in_nat (by omega) h2
      clear k23 hno
      generalize a.toNatClampNeg = a' at hp e1 l1
      generalize b.toNatClampNeg = b' at hp e2 l2
      subst e1
      subst e2
      refine x_RM_bad_20 K hr ⟨fun _ => ?_, fun z => absurd z (by decide)⟩
      refine x_RM_bad_28 K hr c_RM_throwing (by decide) ?_
      refine ⟨0, 0, th, _, _, _, _, _, _, _, _, _, _, _, _, bw, _, _, rfl, rfl, rfl, ?_⟩
      refine x_RM_bad_32 K hr c_RM_forget (by decide) ⟨fun _ => ?_, fun z => absurd rfl z⟩
      rw [x8, nI_clamp (n := 8 * a' + b') (by omega), hA.2 a' b' (by omega) (by omega)]
      refine ⟨vp_in_nI (by omega) (by decide), fun z => ?_, fun z => ?_⟩
      · have hB : ¬ rB R a' b' = true := fun q => by rw [if_pos q] at z; exact absurd z (by decide)
        rw [if_neg hB] at hp
        refine ⟨R, room, E, 0, rfl, rfl, rm_th 0 hw0, fun w' hw' => ?_⟩
        obtain ⟨sm, at9, o, nx, ls, bw, xf, xe, xt, xn, xk, xw, xb, nm, ro, od, le, pa, br, so, al, ot, rfl, hR', hE', hro', hA, hN, hS, hO, hbw⟩ := hw'
        refine x_RM_bad_57 K hr ?_
        rw [x8, x8, nI_clamp (n := 8 * a' + b') (by omega), nI_clamp (n := 8 * b' + a') (by omega)]
        refine ⟨vp_in_nI (by omega) (by decide), vp_in_nI (by omega) (by decide), ?_⟩
        refine hp _ ⟨sm, at9, o, nx, ls, bw, xf, xe, xt, xn, xk, xw, upd (upd xb (8 * a' + b') (vp_nar .boolean 1)) (8 * b' + a') (vp_nar .boolean 1), nm, ro, od, le, pa, br, so, al, ot, rfl, rv_bad hR, ev_E0 _ _ _ _ _ _ _ _, hro', ⟨hA.1, fun x y hx hy => ?_⟩, hN, hS, hO, hbw⟩
        have e1 : vp_nar .boolean 1 = 1 := by decide
        rw [e1]
        show upd (upd xb (8 * a' + b') 1) (8 * b' + a') 1 (8 * x + y) = if (rB R x y || ((x == a' && y == b') || (x == b' && y == a'))) = true then 1 else 0
        by_cases q1 : x = b' ∧ y = a'
        · rw [q1.1, q1.2, pk_us, if_pos (by simp)]
        · rw [pk_un (by omega)]
          by_cases q2 : x = a' ∧ y = b'
          · rw [q2.1, q2.2, pk_us, if_pos (by simp)]
          · rw [pk_un (by omega), hA.2 x y hx hy]
            have q3 : (x == b' && y == a') = false := by
              rw [Bool.eq_false_iff]; intro h; simp at h; exact q1 h
            have q4 : (x == a' && y == b') = false := by
              rw [Bool.eq_false_iff]; intro h; simp at h; exact q2 h
            rw [q3, q4, Bool.or_false, Bool.or_false]
      · have hB : rB R a' b' = true := Decidable.byContradiction fun q => z (if_neg q)
        rw [if_pos hB] at hp
        exact hp _ (rm_th 0 hw0)
    · rw [if_neg h2]
      exact x_RM_bad_20 K hr ⟨fun q => absurd rfl q, fun _ => k23 (Or.inr h2)⟩
  · rw [if_neg h1]
    exact x_RM_bad_9 K hr c_RM_isOf (by decide) ⟨fun _ => k23 (Or.inl h1), fun q => absurd rfl q⟩
def sp_RM_go : am_S := fun av w post => ∃ (R : sp_R) (room : Nat) (E : sp_E) (th a : Int32), av = [aR 0, aI a] ∧ w.length = 19 ∧ (rm R room E th w) ∧ (ez E) ∧ (∀ w' : List am_C, rm (o_go R room E a).2.1 room (o_go R room E a).2.2 (nI (o_go R room E a).1.1) w' → post (some (aI (o_go R room E a).1.2)) w')
set_option maxRecDepth 20000 in
set_option maxHeartbeats 2000000 in
theorem c_RM_go : Con y_RM_go b_RM_go 3 (some .int) 6 0 0 false sp_RM_go := by
  refine Con.of (by decide) (fun av w post h => by obtain ⟨R, room, E, th, a, rfl, -⟩ := h; exact Nat.le_of_ble_eq_true rfl) ?_
  intro X K hnm av w post h hr _
  obtain ⟨R, room, E, th, a, rfl, hlen, hw, hez, hp⟩ := h
  obtain ⟨c0, c1, c2, c3, c4, c5, c6, c7, c8, c9, c10, c11, c12, c13, c14, c15, c16, c17, c18, rfl⟩ := len19 hlen
  have hw0 := hw
  obtain ⟨hR, hE, hro, -⟩ := rm_vs hw
  have hb := hR.1
  have hzr := hE.1.1
  obtain ⟨sm, at9, o, nx, ls, bw, xf, xe, xt, xn, xk, xw, xb, nm, ro, od, le, pa, br, so, al, ot, hwe, -, -, -, hA, hN, hS, hO, hbw⟩ := hw
  rw [hwe] at hw0 ⊢
  clear hwe
  unfold o_go at hp
  have k13 : o_go1 a → AW X 13 [some (aR 0), some (aI a), none] [aR 0] [cRM th (nI (rN R)) (nI room) (nI (rS R)) (nI (rK R)) (nI (rU R)) (nI (sp_fc (rN R))) (nI (eZ E)) (nI (eG E)) (nI (eT E)) (nI (eO E)) (nI (eK E)) (rc_en (eN E)) bw sm at9, iC 40 xf, iC 40 xe, iC 40 xt, iC 40 xn, iC 160 xk, iC 160 xw, zC 64 xb, iC 96 nm, iC 98304 ro, iC 8192 od, iC 8192 le, iC 8192 pa, iC 8192 br, iC 8192 so, iC 8192 al, iC 12 nx, iC 12 ot, iC 12 ls] 0 0 := by
    intro h1
    rw [if_pos h1] at hp
    refine x_RM_go_13 K hr ?_
    refine x_RM_go_18 K hr c_RM_throwing (by decide) ?_
    refine ⟨1, 0, th, _, _, _, _, _, _, _, _, _, _, _, _, bw, _, _, rfl, rfl, rfl, ?_⟩
    refine x_RM_go_22 K hr c_RM_begin (by decide) ⟨fun z => absurd z (by decide), fun _ => ?_⟩
    exact hp _ (rm_th 1 hw0)
  refine x_RM_go_0 K hr ⟨fun z => k13 (Or.inl z), fun z => ⟨fun z2 => ?_, fun z2 => k13 (Or.inr (Int32.not_le.mp z2))⟩⟩
  have hno : ¬ o_go1 a := fun q => by
    rcases q with q | q
    · exact z q
    · exact absurd z2 (Int32.not_le.mpr q)
  rw [if_neg hno] at hp
  have h0 : o_in a 1001 := by
    have z3 := Int32.not_lt.mp z
    refine ⟨?_, ?_⟩
    · have h1 := Int32.le_iff_toInt_le.mp z3
      have e1 : (1 : Int32).toInt = 1 := by decide
      refine Int32.le_iff_toInt_le.mpr ?_
      have e0 : (0 : Int32).toInt = 0 := by decide
      omega
    · have h1 := Int32.le_iff_toInt_le.mp z2
      have e1 : (1000 : Int32).toInt = 1000 := by decide
      refine Int32.lt_iff_toInt_lt.mpr ?_
      have e2 : (nI 1001).toInt = 1001 := nI_toInt (n := 1001) (by decide)
      omega
  obtain ⟨e1, l1⟩ := o_in_nat (by decide) h0
  clear k13 hno z z2 h0
  generalize a.toNatClampNeg = n at hp e1 l1
  subst e1
  have key : ∀ (t i : Nat) (E1 : sp_E) (w : List am_C), i + t = n → rm R room E1 0 w → (∀ w' : List am_C, rm R room (sp_on R room t E1) 0 w' → post (some (aI (nI (eZ (sp_on R room t E1))))) w') → AW X 33 [some (aR 0), some (aI (nI n)), some (aI (nI i))] [] w 0 0 := by
    intro t
    induction t with
    | zero =>
      intro i E1 w h1 hw hp
      have h9 := hp _ hw
      obtain ⟨sm, at9, o, nx, ls, bw, xf, xe, xt, xn, xk, xw, xb, nm, ro, od, le, pa, br, so, al, ot, rfl, -⟩ := hw
      exact x_RM_go_33 K hr c_RM_goThrough (by decide) ⟨fun _ => h9, fun z => absurd (nI_le (by omega) (by omega)) z⟩
    | succ t ih =>
      intro i E1 w h1 hw hp
      have hw' := hw
      obtain ⟨-, hE1, hro1, -⟩ := rm_vs hw
      have hz1 := hE1.1
      have hstep : sp_on R room (t + 1) E1 = if eN E1 = 0 ∧ eG E1 < eZ E1 then sp_on R room t (sp_gt R room E1) else E1 := rfl
      obtain ⟨sm, at9, o, nx, ls, bw, xf, xe, xt, xn, xk, xw, xb, nm, ro, od, le, pa, br, so, al, ot, rfl, -⟩ := hw
      refine x_RM_go_33 K hr c_RM_goThrough (by decide) ⟨fun z => absurd z (nI_ge (by omega) (by omega)), fun _ => ⟨fun z => ?_, fun z => ⟨fun z2 => ?_, fun z2 => ?_⟩⟩⟩
      · rw [hstep, if_neg (fun h => z ((rc_en0 _).mpr h.1))] at hp
        exact hp _ hw'
      · rw [hstep, if_neg (fun h => absurd z2 (nI_ge h.2 (by omega)))] at hp
        exact hp _ hw'
      · have h0 : eN E1 = 0 := (rc_en0 _).mp z
        have hlt : eG E1 < eZ E1 := by
          rcases Nat.lt_or_ge (eG E1) (eZ E1) with h | h
          · exact h
          · exact absurd (nI_le h (by omega)) z2
        rw [hstep, if_pos ⟨h0, hlt⟩] at hp
        refine ⟨R, room, E1, 0, rfl, rfl, hw', hlt, h0, fun w9 hw9 => ?_⟩
        have hw9' := hw9
        obtain ⟨sm, at9, o, nx, ls, bw, xf, xe, xt, xn, xk, xw, xb, nm, ro, od, le, pa, br, so, al, ot, rfl, -⟩ := hw9
        refine x_RM_go_60 K hr ?_
        rw [nI_1]
        exact ih (i + 1) _ _ (by omega) hw9' hp
  refine x_RM_go_18 K hr c_RM_throwing (by decide) ?_
  refine ⟨0, 0, th, _, _, _, _, _, _, _, _, _, _, _, _, bw, _, _, rfl, rfl, rfl, ?_⟩
  refine x_RM_go_22 K hr c_RM_begin (by decide) ⟨fun _ => ?_, fun z => absurd rfl z⟩
  refine ⟨R, room, E, 0, rfl, rfl, rm_th 0 hw0, hez, fun w9 hw9 => ?_⟩
  have hw90 := hw9
  obtain ⟨sm, at9, o, nx, ls, bw, xf, xe, xt, xn, xk, xw, xb, nm, ro, od, le, pa, br, so, al, ot, rfl, -⟩ := hw9
  refine x_RM_go_31 K hr ?_
  exact key n 0 _ _ (by omega) hw90 hp
def sp_RM_node : am_S := fun av w post => ∃ (R : sp_R) (room : Nat) (E : sp_E) (th a b : Int32), av = [aR 0, aI a, aI b] ∧ w.length = 19 ∧ (rm R room E th w) ∧ (∀ w' : List am_C, rm R room E (nI (o_node R E a b).1) w' → post (some (aI (o_node R E a b).2)) w')
set_option maxRecDepth 20000 in
set_option maxHeartbeats 2000000 in
theorem c_RM_node : Con y_RM_node b_RM_node 3 (some .int) 1 0 0 false sp_RM_node := by
  refine Con.of (by decide) (fun av w post h => by obtain ⟨R, room, E, th, a, b, rfl, -⟩ := h; exact Nat.le_of_ble_eq_true rfl) ?_
  intro X K hnm av w post h hr _
  obtain ⟨R, room, E, th, a, b, rfl, hlen, hw, hp⟩ := h
  obtain ⟨c0, c1, c2, c3, c4, c5, c6, c7, c8, c9, c10, c11, c12, c13, c14, c15, c16, c17, c18, rfl⟩ := len19 hlen
  have hw0 := hw
  obtain ⟨hR, hE, hro, -⟩ := rm_vs hw
  have hb := hR.1
  have hzr := hE.1.1
  obtain ⟨sm, at9, o, nx, ls, bw, xf, xe, xt, xn, xk, xw, xb, nm, ro, od, le, pa, br, so, al, ot, hwe, -, -, -, hA, hN, hS, hO, hbw⟩ := hw
  rw [hwe] at hw0 ⊢
  clear hwe
  unfold o_node at hp
  have k23 : o_node1 R E a b → AW X 23 [some (aR 0), some (aI a), some (aI b)] [aR 0] [cRM th (nI (rN R)) (nI room) (nI (rS R)) (nI (rK R)) (nI (rU R)) (nI (sp_fc (rN R))) (nI (eZ E)) (nI (eG E)) (nI (eT E)) (nI (eO E)) (nI (eK E)) (rc_en (eN E)) bw sm at9, iC 40 xf, iC 40 xe, iC 40 xt, iC 40 xn, iC 160 xk, iC 160 xw, zC 64 xb, iC 96 nm, iC 98304 ro, iC 8192 od, iC 8192 le, iC 8192 pa, iC 8192 br, iC 8192 so, iC 8192 al, iC 12 nx, iC 12 ot, iC 12 ls] 0 0 := by
    intro h1
    rw [if_pos h1] at hp
    refine x_RM_node_23 K hr ?_
    refine x_RM_node_28 K hr c_RM_throwing (by decide) ?_
    refine ⟨1, 0, th, _, _, _, _, _, _, _, _, _, _, _, _, bw, _, _, rfl, rfl, rfl, ?_⟩
    refine x_RM_node_32 K hr ⟨fun z => absurd z (by decide), fun _ => ?_⟩
    exact hp _ (rm_th 1 hw0)
  refine x_RM_node_0 K hr c_RM_isOf (by decide) ?_
  refine ⟨a, _, rfl, rfl, ?_⟩
  by_cases h1 : o_in a (eZ E)
  · rw [if_pos h1]
    refine x_RM_node_9 K hr c_RM_isOf (by decide) ⟨fun z => absurd z (by decide), fun _ => ?_⟩
    refine ⟨b, _, rfl, rfl, ?_⟩
    by_cases h2 : o_in b (rN R)
    · rw [if_pos h2]
      rw [if_neg (show ¬ o_node1 R E a b from fun q => by rcases q with q | q; exact q h1; exact q h2)] at hp
      obtain ⟨e1, l1⟩ := o_in_nat (by omega) h1
      obtain ⟨e2, l2⟩ := o_in_nat (by omega) h2
      clear k23
      generalize a.toNatClampNeg = a' at hp e1 l1
      generalize b.toNatClampNeg = b' at hp e2 l2
      subst e1
      subst e2
      refine x_RM_node_20 K hr ⟨fun _ => ?_, fun z => absurd z (by decide)⟩
      refine x_RM_node_28 K hr c_RM_throwing (by decide) ?_
      refine ⟨0, 0, th, _, _, _, _, _, _, _, _, _, _, _, _, bw, _, _, rfl, rfl, rfl, ?_⟩
      refine x_RM_node_32 K hr ⟨fun _ => ?_, fun z => absurd rfl z⟩
      rw [x12, nI_clamp (by omega), (hS a' l1).1.1 b' (by omega)]
      exact ⟨vp_in_nI (by omega) (by decide), hp _ (rm_th 0 hw0)⟩
    · rw [if_neg h2]
      exact x_RM_node_20 K hr ⟨fun q => absurd rfl q, fun _ => k23 (Or.inr h2)⟩
  · rw [if_neg h1]
    exact x_RM_node_9 K hr c_RM_isOf (by decide) ⟨fun _ => k23 (Or.inl h1), fun q => absurd rfl q⟩
def sp_RM_code : am_S := fun av w post => ∃ (R : sp_R) (room : Nat) (E : sp_E) (th a b : Int32), av = [aR 0, aI a, aI b] ∧ w.length = 19 ∧ (rm R room E th w) ∧ (∀ w' : List am_C, rm R room E (nI (o_code E a b).1) w' → post (some (aI (o_code E a b).2)) w')
set_option maxRecDepth 20000 in
set_option maxHeartbeats 2000000 in
theorem c_RM_code : Con y_RM_code b_RM_code 3 (some .int) 1 0 0 false sp_RM_code := by
  refine Con.of (by decide) (fun av w post h => by obtain ⟨R, room, E, th, a, b, rfl, -⟩ := h; exact Nat.le_of_ble_eq_true rfl) ?_
  intro X K hnm av w post h hr _
  obtain ⟨R, room, E, th, a, b, rfl, hlen, hw, hp⟩ := h
  obtain ⟨c0, c1, c2, c3, c4, c5, c6, c7, c8, c9, c10, c11, c12, c13, c14, c15, c16, c17, c18, rfl⟩ := len19 hlen
  have hw0 := hw
  obtain ⟨hR, hE, hro, -⟩ := rm_vs hw
  have hb := hR.1
  have hzr := hE.1.1
  obtain ⟨sm, at9, o, nx, ls, bw, xf, xe, xt, xn, xk, xw, xb, nm, ro, od, le, pa, br, so, al, ot, hwe, -, -, -, hA, hN, hS, hO, hbw⟩ := hw
  rw [hwe] at hw0 ⊢
  clear hwe
  unfold o_code at hp
  have k45 : o_code1 E a b → AW X 45 [some (aR 0), some (aI a), some (aI b)] [aR 0] [cRM th (nI (rN R)) (nI room) (nI (rS R)) (nI (rK R)) (nI (rU R)) (nI (sp_fc (rN R))) (nI (eZ E)) (nI (eG E)) (nI (eT E)) (nI (eO E)) (nI (eK E)) (rc_en (eN E)) bw sm at9, iC 40 xf, iC 40 xe, iC 40 xt, iC 40 xn, iC 160 xk, iC 160 xw, zC 64 xb, iC 96 nm, iC 98304 ro, iC 8192 od, iC 8192 le, iC 8192 pa, iC 8192 br, iC 8192 so, iC 8192 al, iC 12 nx, iC 12 ot, iC 12 ls] 0 0 := by
    intro h1
    rw [if_pos h1] at hp
    refine x_RM_code_45 K hr ?_
    refine x_RM_code_50 K hr c_RM_throwing (by decide) ?_
    refine ⟨1, 0, th, _, _, _, _, _, _, _, _, _, _, _, _, bw, _, _, rfl, rfl, rfl, ?_⟩
    refine x_RM_code_54 K hr ⟨fun z => absurd z (by decide), fun _ => ?_⟩
    exact hp _ (rm_th 1 hw0)
  refine x_RM_code_0 K hr c_RM_isOf (by decide) ?_
  refine ⟨a, _, rfl, rfl, ?_⟩
  by_cases h1 : o_in a (eZ E)
  · rw [if_pos h1]
    refine x_RM_code_9 K hr c_RM_isOf (by decide) ⟨fun z => absurd z (by decide), fun _ => ?_⟩
    refine ⟨a, _, rfl, rfl, ?_⟩
    rw [if_pos h1]
    obtain ⟨e1, l1⟩ := o_in_nat (by omega) h1
    obtain ⟨a', ha'⟩ : ∃ a', a' = a.toNatClampNeg := ⟨_, rfl⟩
    have e1' : a = nI a' := by rw [ha']; exact e1
    rw [← ha'] at l1
    have hrow := (hS a' l1).1
    have hn7 := sp_n_le (eF E a')
    have x124 : ((12 : Int32) * a) + (4 : Int32) = nI (12 * a' + 4) := by rw [e1']; exact x12 a' 4
    refine x_RM_code_21 K hr ⟨fun z => absurd z (by decide), fun _ => ?_⟩
    rw [x124, nI_clamp (by omega), hrow.2.1]
    refine ⟨vp_in_nI (by omega) (by decide), ?_⟩
    refine x_RM_code_39 K hr c_RM_isOf (by decide) ?_
    refine ⟨b, _, rfl, rfl, ?_⟩
    by_cases h2 : o_in b (sp_n (eF E a'))
    · rw [if_pos h2]
      have h2' : o_in b (sp_n (eF E a.toNatClampNeg)) := by rw [← ha']; exact h2
      rw [if_neg (show ¬ o_code1 E a b from fun q => by rcases q with q | q; exact q h1; exact q h2'), ← ha'] at hp
      obtain ⟨e2, l2⟩ := o_in_nat (by omega) h2
      clear k45 h2'
      generalize b.toNatClampNeg = b' at hp e2 l2
      subst e2
      have x125 : ((((12 : Int32) * a) + (5 : Int32)) + nI b') = nI (12 * a' + 5 + b') := by
        have h' : ((12 : Int32) * nI a') + (5 : Int32) = nI (12 * a' + 5) := x12 a' 5
        rw [e1', h', nI_add]
      refine x_RM_code_42 K hr ⟨fun _ => ?_, fun z => absurd z (by decide)⟩
      refine x_RM_code_50 K hr c_RM_throwing (by decide) ?_
      refine ⟨0, 0, th, _, _, _, _, _, _, _, _, _, _, _, _, bw, _, _, rfl, rfl, rfl, ?_⟩
      refine x_RM_code_54 K hr ⟨fun _ => ?_, fun z => absurd rfl z⟩
      rw [x125, nI_clamp (by omega), hrow.2.2 b' _ (sp_getD_mem (l := sp_cs (eF E a')) (i := b') (by rw [sp_cs_len]; exact l2)).2]
      exact ⟨vp_in_nI (by omega) (by decide), hp _ (rm_th 0 hw0)⟩
    · rw [if_neg h2]
      exact x_RM_code_42 K hr ⟨fun q => absurd rfl q, fun _ => k45 (Or.inr (by rw [← ha']; exact h2))⟩
  · rw [if_neg h1]
    exact x_RM_code_9 K hr c_RM_isOf (by decide) ⟨fun _ => k45 (Or.inl h1), fun q => absurd rfl q⟩
def sp_RM_whole : am_S := fun av w post => ∃ (R : sp_R) (room : Nat) (E : sp_E) (th a b : Int32), av = [aR 0, aI a, aI b] ∧ w.length = 19 ∧ (rm R room E th w) ∧ (∀ w' : List am_C, rm R room E (nI (o_whole E a b).1) w' → post (some (aI (o_whole E a b).2)) w')
set_option maxRecDepth 20000 in
set_option maxHeartbeats 2000000 in
theorem c_RM_whole : Con y_RM_whole b_RM_whole 3 (some .int) 1 0 0 false sp_RM_whole := by
  refine Con.of (by decide) (fun av w post h => by obtain ⟨R, room, E, th, a, b, rfl, -⟩ := h; exact Nat.le_of_ble_eq_true rfl) ?_
  intro X K hnm av w post h hr _
  obtain ⟨R, room, E, th, a, b, rfl, hlen, hw, hp⟩ := h
  obtain ⟨c0, c1, c2, c3, c4, c5, c6, c7, c8, c9, c10, c11, c12, c13, c14, c15, c16, c17, c18, rfl⟩ := len19 hlen
  have hw0 := hw
  obtain ⟨hR, hE, hro, -⟩ := rm_vs hw
  have hb := hR.1
  have hzr := hE.1.1
  obtain ⟨sm, at9, o, nx, ls, bw, xf, xe, xt, xn, xk, xw, xb, nm, ro, od, le, pa, br, so, al, ot, hwe, -, -, -, hA, hN, hS, hO, hbw⟩ := hw
  rw [hwe] at hw0 ⊢
  clear hwe
  unfold o_whole at hp
  have k21 : o_whole1 E a b → AW X 21 [some (aR 0), some (aI a), some (aI b)] [aR 0] [cRM th (nI (rN R)) (nI room) (nI (rS R)) (nI (rK R)) (nI (rU R)) (nI (sp_fc (rN R))) (nI (eZ E)) (nI (eG E)) (nI (eT E)) (nI (eO E)) (nI (eK E)) (rc_en (eN E)) bw sm at9, iC 40 xf, iC 40 xe, iC 40 xt, iC 40 xn, iC 160 xk, iC 160 xw, zC 64 xb, iC 96 nm, iC 98304 ro, iC 8192 od, iC 8192 le, iC 8192 pa, iC 8192 br, iC 8192 so, iC 8192 al, iC 12 nx, iC 12 ot, iC 12 ls] 0 0 := by
    intro h1
    rw [if_pos h1] at hp
    refine x_RM_whole_21 K hr ?_
    refine x_RM_whole_26 K hr c_RM_throwing (by decide) ?_
    refine ⟨1, 0, th, _, _, _, _, _, _, _, _, _, _, _, _, bw, _, _, rfl, rfl, rfl, ?_⟩
    refine x_RM_whole_30 K hr ⟨fun z => absurd z (by decide), fun _ => ?_⟩
    exact hp _ (rm_th 1 hw0)
  refine x_RM_whole_0 K hr c_RM_isOf (by decide) ?_
  refine ⟨a, _, rfl, rfl, ?_⟩
  by_cases h1 : o_in a (eZ E)
  · rw [if_pos h1]
    refine x_RM_whole_9 K hr c_RM_isOf (by decide) ⟨fun z => absurd z (by decide), fun _ => ?_⟩
    refine ⟨b, _, rfl, rfl, ?_⟩
    by_cases h2 : o_in b 6
    · rw [if_pos (show 0 ≤ b ∧ b < 6 from h2)]
      rw [if_neg (show ¬ o_whole1 E a b from fun q => by rcases q with q | q; exact q h1; exact q h2)] at hp
      obtain ⟨e1, l1⟩ := o_in_nat (by omega) h1
      clear k21
      generalize a.toNatClampNeg = a' at hp e1 l1
      subst e1
      obtain ⟨q1, q2, q3, q4, q5, q6⟩ := hS a' l1
      have hin : vp_in (nI a') 8192 := vp_in_nI (by omega) (by decide)
      have x124 : ((12 : Int32) * nI a') + (4 : Int32) = nI (12 * a' + 4) := x12 a' 4
      refine x_RM_whole_18 K hr ⟨fun _ => ?_, fun z => absurd z (by decide)⟩
      refine x_RM_whole_26 K hr c_RM_throwing (by decide) ?_
      refine ⟨0, 0, th, _, _, _, _, _, _, _, _, _, _, _, _, bw, _, _, rfl, rfl, rfl, ?_⟩
      refine x_RM_whole_30 K hr ⟨fun _ => ?_, fun z => absurd rfl z⟩
      have hp9 := hp _ (rm_th 0 hw0)
      rw [x124, nI_clamp (n := 12 * a' + 4) (by omega), nI_clamp (n := a') (by omega), q1.2.1, q2, q3, q4, q5, q6]
      refine ⟨fun z => ⟨vp_in_nI (by omega) (by decide), ?_⟩, fun z => ⟨hin, ?_⟩, fun z => ⟨hin, ?_⟩, fun z => ⟨hin, ?_⟩, fun z => ⟨hin, ?_⟩, fun z => ⟨hin, ?_⟩⟩
      · subst z; exact hp9
      · subst z; exact hp9
      · subst z; exact hp9
      · subst z; exact hp9
      · subst z; exact hp9
      · obtain ⟨e2, l2⟩ := o_in_nat (by decide) h2
        rw [e2, nI_toInt (by omega)] at z
        have e5 : b.toNatClampNeg = 5 := by omega
        rw [e5] at e2
        subst e2
        exact hp9
    · rw [if_neg (show ¬ (0 ≤ b ∧ b < 6) from h2)]
      exact x_RM_whole_18 K hr ⟨fun q => absurd rfl q, fun _ => k21 (Or.inr h2)⟩
  · rw [if_neg h1]
    exact x_RM_whole_9 K hr c_RM_isOf (by decide) ⟨fun _ => k21 (Or.inl h1), fun q => absurd rfl q⟩
def sp_RM_way : am_S := fun av w post => ∃ (R : sp_R) (room : Nat) (E : sp_E) (th : Int32), av = [aR 0] ∧ w.length = 19 ∧ (rm R room E th w) ∧ (∀ w' : List am_C, rm R room E 0 w' → post (some (aI (o_way E))) w')
set_option maxRecDepth 20000 in
set_option maxHeartbeats 2000000 in
theorem c_RM_way : Con y_RM_way b_RM_way 1 (some .int) 0 0 0 false sp_RM_way := by
  refine Con.of (by decide) (fun av w post h => by obtain ⟨R, room, E, th, rfl, -⟩ := h; exact Nat.le_of_ble_eq_true rfl) ?_
  intro X K hnm av w post h hr _
  obtain ⟨R, room, E, th, rfl, hlen, hw, hp⟩ := h
  obtain ⟨c0, c1, c2, c3, c4, c5, c6, c7, c8, c9, c10, c11, c12, c13, c14, c15, c16, c17, c18, rfl⟩ := len19 hlen
  have hw0 := hw
  obtain ⟨hR, hE, hro, -⟩ := rm_vs hw
  have hb := hR.1
  have hzr := hE.1.1
  obtain ⟨sm, at9, o, nx, ls, bw, xf, xe, xt, xn, xk, xw, xb, nm, ro, od, le, pa, br, so, al, ot, hwe, -, -, -, hA, hN, hS, hO, hbw⟩ := hw
  rw [hwe] at hw0 ⊢
  clear hwe
  unfold o_way at hp
  have hp9 := hp _ (rm_th 0 hw0)
  refine x_RM_way_0 K hr ⟨fun z => ?_, fun z => ?_⟩
  · rw [if_neg (fun q => z ((rc_en2 hE.2.2.2.2.2.2.1).mpr q))] at hp9
    exact hp9
  · have hn : eN E = 2 := (rc_en2 hE.2.2.2.2.2.2.1).mp z
    have hpos : 0 < eZ E := hE.2.2.2.2.2.2.2 hn
    rw [if_pos hn] at hp9
    have ebw := hbw hn
    subst ebw
    rw [nI_clamp (by omega), (hS (eZ E - 1) (by omega)).2.1]
    exact ⟨vp_in_nI (by omega) (by decide), hp9⟩
def sp_RM_wayAt : am_S := fun av w post => ∃ (R : sp_R) (room : Nat) (E : sp_E) (th a : Int32), av = [aR 0, aI a] ∧ w.length = 19 ∧ (rm R room E th w) ∧ (∀ w' : List am_C, rm R room E (nI (o_wayAt E a).1) w' → post (some (aI (o_wayAt E a).2)) w')
set_option maxRecDepth 20000 in
set_option maxHeartbeats 2000000 in
theorem c_RM_wayAt : Con y_RM_wayAt b_RM_wayAt 3 (some .int) 1 0 0 false sp_RM_wayAt := by
  refine Con.of (by decide) (fun av w post h => by obtain ⟨R, room, E, th, a, rfl, -⟩ := h; exact Nat.le_of_ble_eq_true rfl) ?_
  intro X K hnm av w post h hr _
  obtain ⟨R, room, E, th, a, rfl, hlen, hw, hp⟩ := h
  obtain ⟨c0, c1, c2, c3, c4, c5, c6, c7, c8, c9, c10, c11, c12, c13, c14, c15, c16, c17, c18, rfl⟩ := len19 hlen
  have hw0 := hw
  obtain ⟨hR, hE, hro, -⟩ := rm_vs hw
  have hb := hR.1
  have hzr := hE.1.1
  obtain ⟨sm, at9, o, nx, ls, bw, xf, xe, xt, xn, xk, xw, xb, nm, ro, od, le, pa, br, so, al, ot, hwe, -, -, -, hA, hN, hS, hO, hbw⟩ := hw
  rw [hwe] at hw0 ⊢
  clear hwe
  unfold o_wayAt at hp
  have k41 : o_wayAt1 E a → AW X 41 [some (aR 0), some (aI a), none] [aR 0] [cRM th (nI (rN R)) (nI room) (nI (rS R)) (nI (rK R)) (nI (rU R)) (nI (sp_fc (rN R))) (nI (eZ E)) (nI (eG E)) (nI (eT E)) (nI (eO E)) (nI (eK E)) (rc_en (eN E)) bw sm at9, iC 40 xf, iC 40 xe, iC 40 xt, iC 40 xn, iC 160 xk, iC 160 xw, zC 64 xb, iC 96 nm, iC 98304 ro, iC 8192 od, iC 8192 le, iC 8192 pa, iC 8192 br, iC 8192 so, iC 8192 al, iC 12 nx, iC 12 ot, iC 12 ls] 0 0 := by
    intro h1
    rw [if_pos h1] at hp
    refine x_RM_wayAt_41 K hr ?_
    refine x_RM_wayAt_46 K hr c_RM_throwing (by decide) ?_
    refine ⟨1, 0, th, _, _, _, _, _, _, _, _, _, _, _, _, bw, _, _, rfl, rfl, rfl, ?_⟩
    refine x_RM_wayAt_50 K hr ⟨fun z => absurd z (by decide), fun _ => ?_⟩
    exact hp _ (rm_th 1 hw0)
  refine x_RM_wayAt_0 K hr ⟨fun z => k41 (Or.inl (fun q => z ((rc_en2 hE.2.2.2.2.2.2.1).mpr q))), fun z => ⟨fun z2 => absurd z z2, fun _ => ?_⟩⟩
  have hn : eN E = 2 := (rc_en2 hE.2.2.2.2.2.2.1).mp z
  have hpos : 0 < eZ E := hE.2.2.2.2.2.2.2 hn
  have hlev := (ev_lev hE (eZ E - 1) (eZ E - 1) (Nat.le_refl _) (by omega)).1
  have ebw := hbw hn
  subst ebw
  rw [nI_clamp (by omega), (hS (eZ E - 1) (by omega)).2.1, nI_1]
  refine ⟨vp_in_nI (by omega) (by decide), ?_⟩
  refine x_RM_wayAt_35 K hr c_RM_isOf (by decide) ?_
  refine ⟨a, _, rfl, rfl, ?_⟩
  by_cases h2 : o_in a (eL E (eZ E - 1) + 1)
  · rw [if_pos h2]
    rw [if_neg (show ¬ o_wayAt1 E a from fun q => by rcases q with q | q; exact q hn; exact q h2)] at hp
    obtain ⟨e1, l1⟩ := o_in_nat (by omega) h2
    clear k41
    generalize a.toNatClampNeg = i at hp e1 l1
    subst e1
    refine x_RM_wayAt_38 K hr ⟨fun _ => ?_, fun z => absurd z (by decide)⟩
    refine x_RM_wayAt_46 K hr c_RM_throwing (by decide) ?_
    refine ⟨0, 0, th, _, _, _, _, _, _, _, _, _, _, _, _, _, _, _, rfl, rfl, rfl, ?_⟩
    refine x_RM_wayAt_50 K hr ⟨fun _ => ?_, fun z => absurd rfl z⟩
    have hp9 := hp _ (rm_th 0 hw0)
    have key : ∀ (t k : Nat), k < t → k < eZ E → post (some (aI (nI (sp_wy E i t k)))) [cRM 0 (nI (rN R)) (nI room) (nI (rS R)) (nI (rK R)) (nI (rU R)) (nI (sp_fc (rN R))) (nI (eZ E)) (nI (eG E)) (nI (eT E)) (nI (eO E)) (nI (eK E)) (rc_en (eN E)) (nI (eZ E - 1)) sm at9, iC 40 xf, iC 40 xe, iC 40 xt, iC 40 xn, iC 160 xk, iC 160 xw, zC 64 xb, iC 96 nm, iC 98304 ro, iC 8192 od, iC 8192 le, iC 8192 pa, iC 8192 br, iC 8192 so, iC 8192 al, iC 12 nx, iC 12 ot, iC 12 ls] → AW X 60 [some (aR 0), some (aI (nI i)), some (aI (nI k))] [] [cRM 0 (nI (rN R)) (nI room) (nI (rS R)) (nI (rK R)) (nI (rU R)) (nI (sp_fc (rN R))) (nI (eZ E)) (nI (eG E)) (nI (eT E)) (nI (eO E)) (nI (eK E)) (rc_en (eN E)) (nI (eZ E - 1)) sm at9, iC 40 xf, iC 40 xe, iC 40 xt, iC 40 xn, iC 160 xk, iC 160 xw, zC 64 xb, iC 96 nm, iC 98304 ro, iC 8192 od, iC 8192 le, iC 8192 pa, iC 8192 br, iC 8192 so, iC 8192 al, iC 12 nx, iC 12 ot, iC 12 ls] 0 0 := by
      intro t
      induction t with
      | zero => intro k h1; omega
      | succ t ih =>
        intro k h1 h2 hp
        have hl := ev_lev hE k k (Nat.le_refl _) h2
        obtain ⟨q1, q2, q3, q4, q5, q6⟩ := hS k h2
        refine x_RM_wayAt_60 K hr ?_
        rw [nI_clamp (by omega), q2, q3]
        have hstep : sp_wy E i (t + 1) k = if eL E k ≤ i then k else sp_wy E i t (eP E k - 1) := rfl
        refine ⟨vp_in_nI (by omega) (by decide), fun z => ?_, fun z => ⟨vp_in_nI (by omega) (by decide), ?_⟩⟩
        · rw [hstep, if_pos ((nI_leI (by omega) (by omega)).mp z)] at hp; exact hp
        · have z' : ¬ eL E k ≤ i := fun q => z ((nI_leI (by omega) (by omega)).mpr q)
          rw [hstep, if_neg z'] at hp
          rcases hE.2.2.2.1 k h2 with ⟨a1, a2, a3⟩ | ⟨p, a1, a2, a3⟩
          · omega
          · rw [a1, Nat.add_sub_cancel] at hp
            rw [a1, nI_pred]
            exact ih p (by omega) (by omega) hp
    exact key (eZ E) (eZ E - 1) (by omega) (by omega) hp9
  · rw [if_neg h2]
    exact x_RM_wayAt_38 K hr ⟨fun q => absurd rfl q, fun _ => k41 (Or.inr h2)⟩
def sp_RM_greatestLevel : am_S := fun av w post => ∃ (R : sp_R) (room : Nat) (E : sp_E) (th : Int32), av = [aR 0] ∧ w.length = 19 ∧ (rm R room E th w) ∧ (post (some (aI (o_lev E))) w)
set_option maxRecDepth 20000 in
set_option maxHeartbeats 2000000 in
theorem c_RM_greatestLevel : Con y_RM_greatestLevel b_RM_greatestLevel 3 (some .int) 0 0 0 false sp_RM_greatestLevel := by
  refine Con.of (by decide) (fun av w post h => by obtain ⟨R, room, E, th, rfl, -⟩ := h; exact Nat.le_of_ble_eq_true rfl) ?_
  intro X K hnm av w post h hr _
  obtain ⟨R, room, E, th, rfl, hlen, hw, hp⟩ := h
  obtain ⟨c0, c1, c2, c3, c4, c5, c6, c7, c8, c9, c10, c11, c12, c13, c14, c15, c16, c17, c18, rfl⟩ := len19 hlen
  have hp0 := hp
  clear hp
  have hw0 := hw
  obtain ⟨hR, hE, hro, -⟩ := rm_vs hw
  have hzr := hE.1.1
  obtain ⟨sm, at9, o, nx, ls, bw, xf, xe, xt, xn, xk, xw, xb, nm, ro, od, le, pa, br, so, al, ot, hwe, -, -, -, hA, hN, hS, hO, hbw⟩ := hw
  rw [hwe] at hp0 ⊢
  clear hwe
  have key : ∀ (t k : Nat), k + t = eZ E → AW X 4 [some (aR 0), some (aI (if k = 0 then (-1) else nI (eL E (k - 1)))), some (aI (nI k))] [] [cRM th (nI (rN R)) (nI room) (nI (rS R)) (nI (rK R)) (nI (rU R)) (nI (sp_fc (rN R))) (nI (eZ E)) (nI (eG E)) (nI (eT E)) (nI (eO E)) (nI (eK E)) (rc_en (eN E)) bw sm at9, iC 40 xf, iC 40 xe, iC 40 xt, iC 40 xn, iC 160 xk, iC 160 xw, zC 64 xb, iC 96 nm, iC 98304 ro, iC 8192 od, iC 8192 le, iC 8192 pa, iC 8192 br, iC 8192 so, iC 8192 al, iC 12 nx, iC 12 ot, iC 12 ls] 0 0 := by
    intro t
    induction t with
    | zero =>
      intro k hk
      have e : k = eZ E := by omega
      subst e
      exact x_RM_greatestLevel_4 K hr ⟨fun _ => hp0, fun z => absurd (Int32.le_refl _) z⟩
    | succ t ih =>
      intro k hk
      have hl := (ev_lev hE k k (Nat.le_refl _) (by omega)).1
      have h := ih (k + 1) (by omega)
      rw [if_neg (by omega), Nat.add_sub_cancel] at h
      refine x_RM_greatestLevel_4 K hr ⟨fun z => absurd z (nI_ge (by omega) (by omega)), fun _ => ?_⟩
      rw [nI_clamp (by omega), (hS k (by omega)).2.1, nI_1]
      refine ⟨vp_in_nI (by omega) (by decide), fun z => ?_, fun _ => ⟨vp_in_nI (by omega) (by decide), h⟩⟩
      by_cases q : k = 0
      · rw [if_pos q] at z
        have h1 := Int32.le_iff_toInt_le.mp z
        rw [nI_toInt (by omega)] at h1
        have h2 : ((-1 : Int32)).toInt = -1 := by decide
        omega
      · rw [if_neg q] at z ⊢
        have hl2 := (ev_lev hE (k - 1) (k - 1) (Nat.le_refl _) (by omega)).1
        have h1 := (nI_leI (by omega) (by omega)).mp z
        have h2 := hE.2.2.2.2.1 (k - 1) k (by omega) (by omega)
        have h3 : eL E (k - 1) = eL E k := by omega
        rw [h3]
        exact h
  refine x_RM_greatestLevel_0 K hr ?_
  exact key (eZ E) 0 (by omega)
def sp_RM_sums : am_S := fun av w post => ∃ (R : sp_R) (room : Nat) (E : sp_E) (th : Int32), av = [aR 0] ∧ w.length = 19 ∧ (rm R room E th w) ∧ (post (some (aI (nI (rc_sd (sp_fc (rN R)) (eY E) (eZ E))))) w)
set_option maxRecDepth 20000 in
set_option maxHeartbeats 2000000 in
theorem c_RM_sums : Con y_RM_sums b_RM_sums 3 (some .int) 0 0 0 false sp_RM_sums := by
  refine Con.of (by decide) (fun av w post h => by obtain ⟨R, room, E, th, rfl, -⟩ := h; exact Nat.le_of_ble_eq_true rfl) ?_
  intro X K hnm av w post h hr _
  obtain ⟨R, room, E, th, rfl, hlen, hw, hp⟩ := h
  obtain ⟨c0, c1, c2, c3, c4, c5, c6, c7, c8, c9, c10, c11, c12, c13, c14, c15, c16, c17, c18, rfl⟩ := len19 hlen
  obtain ⟨hR, hE, hro, -⟩ := rm_vs hw
  have hzr := hE.1.1
  have hfc := sp_fc_le (rN R)
  obtain ⟨sm, at9, o, nx, ls, bw, xf, xe, xt, xn, xk, xw, xb, nm, ro, od, le, pa, br, so, al, ot, hwe, -, -, -, hA, hN, hS, hO, hbw⟩ := hw
  rw [hwe] at hp ⊢
  clear hwe
  have key : ∀ (t k : Nat), k + t = eZ E → AW X 4 [some (aR 0), some (aI (nI (rc_sd (sp_fc (rN R)) (eY E) k))), some (aI (nI k))] [] [cRM th (nI (rN R)) (nI room) (nI (rS R)) (nI (rK R)) (nI (rU R)) (nI (sp_fc (rN R))) (nI (eZ E)) (nI (eG E)) (nI (eT E)) (nI (eO E)) (nI (eK E)) (rc_en (eN E)) bw sm at9, iC 40 xf, iC 40 xe, iC 40 xt, iC 40 xn, iC 160 xk, iC 160 xw, zC 64 xb, iC 96 nm, iC 98304 ro, iC 8192 od, iC 8192 le, iC 8192 pa, iC 8192 br, iC 8192 so, iC 8192 al, iC 12 nx, iC 12 ot, iC 12 ls] 0 0 := by
    intro t
    induction t with
    | zero =>
      intro k hk
      have e : k = eZ E := by omega
      subst e
      exact x_RM_sums_4 K hr ⟨fun _ => hp, fun z => absurd (Int32.le_refl _) z⟩
    | succ t ih =>
      intro k hk
      obtain ⟨-, y1, y2⟩ := hE.2.1 k (by omega)
      have h := ih (k + 1) (by omega)
      refine x_RM_sums_4 K hr ⟨fun z => absurd z (nI_ge (by omega) (by omega)), fun _ => ?_⟩
      rw [nI_clamp (by omega), (hS k (by omega)).2.2.2.2.2, nI_div (by omega) (by omega) (by omega), nI_add, nI_1]
      exact ⟨vp_in_nI (by omega) (by decide), nI_ne0 (by omega) (by omega), h⟩
  refine x_RM_sums_0 K hr ?_
  exact key (eZ E) 0 (by omega)
def sp_RM_count : am_S := fun av w post => ∃ (R : sp_R) (room : Nat) (E : sp_E) (th i : Int32), av = [aR 0, aI i] ∧ w.length = 19 ∧ (rm R room E th w) ∧ (∀ w' : List am_C, rm R room E 0 w' → post (some (aI (o_count R E i))) w')
set_option maxRecDepth 20000 in
set_option maxHeartbeats 2000000 in
theorem c_RM_count : Con y_RM_count b_RM_count 2 (some .int) 1 0 0 false sp_RM_count := by
  refine Con.of (by decide) (fun av w post h => by obtain ⟨R, room, E, th, i, rfl, -⟩ := h; exact Nat.le_of_ble_eq_true rfl) ?_
  intro X K hnm av w post h hr _
  obtain ⟨R, room, E, th, i, rfl, hlen, hw, hp⟩ := h
  obtain ⟨c0, c1, c2, c3, c4, c5, c6, c7, c8, c9, c10, c11, c12, c13, c14, c15, c16, c17, c18, rfl⟩ := len19 hlen
  have hw0 := hw
  obtain ⟨hR, hE, hro, -⟩ := rm_vs hw
  have hb := hR.1
  have hzr := hE.1.1
  obtain ⟨sm, at9, o, nx, ls, bw, xf, xe, xt, xn, xk, xw, xb, nm, ro, od, le, pa, br, so, al, ot, hwe, -, -, -, hA, hN, hS, hO, hbw⟩ := hw
  rw [hwe] at hw0 ⊢
  clear hwe
  have hw9 := rm_th 0 hw0
  have hp9 := hp _ hw9
  refine x_RM_count_0 K hr c_RM_greatestLevel (by decide) c_RM_sums (by decide) ⟨fun z => ?_, fun z => ?_, fun z => ?_, fun z => ?_, fun z => ?_, fun z => ?_, fun z => ?_, fun z => ?_, fun z => ?_, fun z => ?_, fun z => ?_, fun z => ?_⟩
  · subst z; exact hp9
  · subst z; exact hp9
  · subst z; exact hp9
  · subst z; exact hp9
  · subst z; exact hp9
  · subst z; exact hp9
  · subst z
    refine ⟨R, room, E, 0, rfl, rfl, hw9, ?_⟩
    exact x_RM_count_98 K hr hp9
  · subst z; exact hp9
  · subst z; exact hp9
  · subst z; exact hp9
  · subst z
    refine ⟨R, room, E, 0, rfl, rfl, hw9, ?_⟩
    exact x_RM_count_118 K hr hp9
  · have hne : ∀ k : Int32, 0 ≤ k.toInt → k.toInt ≤ 10 → i ≠ k := fun k h1 h2 q => by subst q; omega
    have e : o_count R E i = (-1) := by
      unfold o_count
      rw [if_neg (hne 0 (by decide) (by decide)), if_neg (hne 1 (by decide) (by decide)), if_neg (hne 2 (by decide) (by decide)), if_neg (hne 3 (by decide) (by decide)), if_neg (hne 4 (by decide) (by decide)), if_neg (hne 5 (by decide) (by decide)), if_neg (hne 6 (by decide) (by decide)), if_neg (hne 7 (by decide) (by decide)), if_neg (hne 8 (by decide) (by decide)), if_neg (hne 9 (by decide) (by decide)), if_neg (hne 10 (by decide) (by decide))]
    rw [e] at hp9
    exact hp9

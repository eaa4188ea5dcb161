/-! ===== THE REFERENCE's face ===== -/
def sp_RM_throwing : am_S := fun av w post => ∃ (a b th xN rm xS xK xU nu sz go st ol sk an bw sm at9 : Int32), av = [aR 0, aI a, aI b] ∧ w.length = 19 ∧ w[0]? = some (cRM th xN rm xS xK xU nu sz go st ol sk an bw sm at9) ∧ (post (some (aI (if (if a = 0 then (if b = 0 then 0 else 2) else (1 : Int32)) = 0 then 0 else 1))) (w.set 0 (cRM (if a = 0 then (if b = 0 then 0 else 2) else 1) xN rm xS xK xU nu sz go st ol sk an bw sm at9)))
set_option maxRecDepth 20000 in
set_option maxHeartbeats 2000000 in
theorem c_RM_throwing : Con y_RM_throwing b_RM_throwing 3 (some .boolean) 0 0 0 false sp_RM_throwing := by
  refine Con.of (by decide) (fun av w post h => by obtain ⟨a, b, th, xN, rm, xS, xK, xU, nu, sz, go, st, ol, sk, an, bw, sm, at9, rfl, -⟩ := h; exact Nat.le_of_ble_eq_true rfl) ?_
  intro X K hnm av w post h hr _
  obtain ⟨a, b, th, xN, rm, xS, xK, xU, nu, sz, go, st, ol, sk, an, bw, sm, at9, rfl, hlen, hc0, hp⟩ := h
  obtain ⟨c0, c1, c2, c3, c4, c5, c6, c7, c8, c9, c10, c11, c12, c13, c14, c15, c16, c17, c18, rfl⟩ := len19 hlen
  obtain rfl : c0 = _ := Option.some.inj hc0
  refine x_RM_throwing_0 K hr ⟨fun q => ⟨fun q2 => ?_, fun q2 => ?_⟩, fun q => ?_⟩
  · rw [if_pos q, if_pos q2] at hp
    exact x_RM_throwing_18 K hr ⟨fun _ => hp, fun z => absurd (Int32.le_refl _) z⟩
  · rw [if_pos q, if_neg q2] at hp
    exact x_RM_throwing_18 K hr ⟨fun z => absurd z (by decide), fun _ => hp⟩
  · rw [if_neg q] at hp
    exact x_RM_throwing_18 K hr ⟨fun z => absurd z (by decide), fun _ => hp⟩
def sp_RM_isOf : am_S := fun av w post => ∃ (k n : Int32), av = [aI k, aI n] ∧ w.length = 19 ∧ (post (some (aI (if 0 ≤ k ∧ k < n then 1 else 0))) w)
set_option maxRecDepth 20000 in
set_option maxHeartbeats 2000000 in
theorem c_RM_isOf : Con y_RM_isOf b_RM_isOf 2 (some .boolean) 0 0 0 false sp_RM_isOf := by
  refine Con.of (by decide) (fun av w post h => by obtain ⟨k, n, rfl, -⟩ := h; exact Nat.le_of_ble_eq_true rfl) ?_
  intro X K hnm av w post h hr _
  obtain ⟨k, n, rfl, hlen, hp⟩ := h
  obtain ⟨c0, c1, c2, c3, c4, c5, c6, c7, c8, c9, c10, c11, c12, c13, c14, c15, c16, c17, c18, rfl⟩ := len19 hlen
  refine x_RM_isOf_0 K hr ⟨fun q => ?_, fun q => ⟨fun q2 => ?_, fun q2 => ?_⟩⟩
  · rw [if_neg (fun z => Int32.not_le.mpr q z.1)] at hp; exact hp
  · rw [if_neg (fun z => Int32.not_lt.mpr q2 z.2)] at hp; exact hp
  · rw [if_pos ⟨Int32.not_lt.mp q, Int32.not_le.mp q2⟩] at hp; exact hp
def sp_RM_thrown : am_S := fun av w post => ∃ (R : sp_R) (room : Nat) (E : sp_E) (th : Int32), av = [aR 0] ∧ w.length = 19 ∧ (rm R room E th w) ∧ (post (some (aI th)) w)
set_option maxRecDepth 20000 in
set_option maxHeartbeats 2000000 in
theorem c_RM_thrown : Con y_RM_thrown b_RM_thrown 1 (some .int) 0 0 0 false sp_RM_thrown := by
  refine Con.of (by decide) (fun av w post h => by obtain ⟨R, room, E, th, rfl, -⟩ := h; exact Nat.le_of_ble_eq_true rfl) ?_
  intro X K hnm av w post h hr _
  obtain ⟨R, room, E, th, rfl, hlen, hw, hp⟩ := h
  obtain ⟨c0, c1, c2, c3, c4, c5, c6, c7, c8, c9, c10, c11, c12, c13, c14, c15, c16, c17, c18, rfl⟩ := len19 hlen
  obtain ⟨sm, at9, o, nx, ls, bw, xf, xe, xt, xn, xk, xw, xb, nm, ro, od, le, pa, br, so, al, ot, hwe, -⟩ := hw
  rw [hwe] at hp ⊢
  exact x_RM_thrown_0 K hr hp
def sp_RM_state : am_S := fun av w post => ∃ (R : sp_R) (room : Nat) (E : sp_E) (th : Int32), av = [aR 0] ∧ w.length = 19 ∧ (rm R room E th w) ∧ (∀ w' : List am_C, rm (o_state R E).2.1 room (o_state R E).2.2 (nI (o_state R E).1.1) w' → post (some (aI (o_state R E).1.2)) w')
set_option maxRecDepth 20000 in
set_option maxHeartbeats 2000000 in
theorem c_RM_state : Con y_RM_state b_RM_state 1 (some .int) 1 0 0 false sp_RM_state := by
  refine Con.of (by decide) (fun av w post h => by obtain ⟨R, room, E, th, rfl, -⟩ := h; exact Nat.le_of_ble_eq_true rfl) ?_
  intro X K hnm av w post h hr _
  obtain ⟨R, room, E, th, rfl, hlen, hw, hp⟩ := h
  obtain ⟨c0, c1, c2, c3, c4, c5, c6, c7, c8, c9, c10, c11, c12, c13, c14, c15, c16, c17, c18, rfl⟩ := len19 hlen
  have hw0 := hw
  obtain ⟨hR, hE, hro, -⟩ := rm_vs hw
  have hb := hR.1
  have hzr := hE.1.1
  obtain ⟨sm, at9, o, nx, ls, bw, xf, xe, xt, xn, xk, xw, xb, nm, ro, od, le, pa, br, so, al, ot, hwe, -, -, -, hA, hN, hS, hO, hbw⟩ := hw
  rw [hwe] at hw0 ⊢
  clear hwe
  unfold o_state at hp
  refine x_RM_state_0 K hr ⟨fun z => ?_, fun z => ?_⟩
  · have h8 : rS R < 8 := by
      have : rS R ≠ 8 := fun q => z (by rw [q]; rfl)
      omega
    rw [if_neg (by omega)] at hp
    refine x_RM_state_15 K hr c_RM_throwing (by decide) ?_
    refine ⟨0, 0, th, _, _, _, _, _, _, _, _, _, _, _, _, bw, _, _, rfl, rfl, rfl, ?_⟩
    refine x_RM_state_19 K hr c_RM_forget (by decide) ⟨fun _ => ?_, fun z => absurd rfl z⟩
    refine ⟨R, room, E, 0, rfl, rfl, rm_th 0 hw0, fun w' hw' => ?_⟩
    obtain ⟨sm, at9, o, nx, ls, bw, xf, xe, xt, xn, xk, xw, xb, nm, ro, od, le, pa, br, so, al, ot, rfl, hR', hE', hro', hA, hN, hS, hO, hbw⟩ := hw'
    refine x_RM_state_28 K hr ?_
    rw [nI_1, nI_pred]
    exact hp _ ⟨sm, at9, o, nx, ls, bw, xf, xe, xt, xn, xk, xw, xb, nm, ro, od, le, pa, br, so, al, ot, rfl, rv_S1 hR h8, ev_E0 _ _ _ _ _ _ _ _, hro', hA, hN, hS, hO, hbw⟩
  · have h8 : rS R = 8 := (nI_eq (b := 8) (by omega) (by decide)).mp z
    rw [if_pos (by omega)] at hp
    refine x_RM_state_15 K hr c_RM_throwing (by decide) ?_
    refine ⟨1, 0, th, _, _, _, _, _, _, _, _, _, _, _, _, bw, _, _, rfl, rfl, rfl, ?_⟩
    refine x_RM_state_19 K hr c_RM_forget (by decide) ⟨fun z => absurd z (by decide), fun _ => ?_⟩
    exact hp _ (rm_th 1 hw0)
def sp_RM_message : am_S := fun av w post => ∃ (R : sp_R) (room : Nat) (E : sp_E) (th : Int32), av = [aR 0] ∧ w.length = 19 ∧ (rm R room E th w) ∧ (∀ w' : List am_C, rm (o_message R E).2.1 room (o_message R E).2.2 (nI (o_message R E).1.1) w' → post (some (aI (o_message R E).1.2)) w')
set_option maxRecDepth 20000 in
set_option maxHeartbeats 2000000 in
theorem c_RM_message : Con y_RM_message b_RM_message 1 (some .int) 1 0 0 false sp_RM_message := by
  refine Con.of (by decide) (fun av w post h => by obtain ⟨R, room, E, th, rfl, -⟩ := h; exact Nat.le_of_ble_eq_true rfl) ?_
  intro X K hnm av w post h hr _
  obtain ⟨R, room, E, th, rfl, hlen, hw, hp⟩ := h
  obtain ⟨c0, c1, c2, c3, c4, c5, c6, c7, c8, c9, c10, c11, c12, c13, c14, c15, c16, c17, c18, rfl⟩ := len19 hlen
  have hw0 := hw
  obtain ⟨hR, hE, hro, -⟩ := rm_vs hw
  have hb := hR.1
  have hzr := hE.1.1
  obtain ⟨sm, at9, o, nx, ls, bw, xf, xe, xt, xn, xk, xw, xb, nm, ro, od, le, pa, br, so, al, ot, hwe, -, -, -, hA, hN, hS, hO, hbw⟩ := hw
  rw [hwe] at hw0 ⊢
  clear hwe
  unfold o_message at hp
  refine x_RM_message_0 K hr ⟨fun z => ?_, fun z => ?_⟩
  · have h8 : rK R < 6 := by
      have : rK R ≠ 6 := fun q => z (by rw [q]; rfl)
      omega
    rw [if_neg (by omega)] at hp
    refine x_RM_message_15 K hr c_RM_throwing (by decide) ?_
    refine ⟨0, 0, th, _, _, _, _, _, _, _, _, _, _, _, _, bw, _, _, rfl, rfl, rfl, ?_⟩
    refine x_RM_message_19 K hr c_RM_forget (by decide) ⟨fun _ => ?_, fun z => absurd rfl z⟩
    refine ⟨R, room, E, 0, rfl, rfl, rm_th 0 hw0, fun w' hw' => ?_⟩
    obtain ⟨sm, at9, o, nx, ls, bw, xf, xe, xt, xn, xk, xw, xb, nm, ro, od, le, pa, br, so, al, ot, rfl, hR', hE', hro', hA, hN, hS, hO, hbw⟩ := hw'
    refine x_RM_message_28 K hr ?_
    rw [nI_1, nI_pred]
    exact hp _ ⟨sm, at9, o, nx, ls, bw, xf, xe, xt, xn, xk, xw, xb, nm, ro, od, le, pa, br, so, al, ot, rfl, rv_K1 hR h8, ev_E0 _ _ _ _ _ _ _ _, hro', hA, hN, hS, hO, hbw⟩
  · have h8 : rK R = 6 := (nI_eq (b := 6) (by omega) (by decide)).mp z
    rw [if_pos (by omega)] at hp
    refine x_RM_message_15 K hr c_RM_throwing (by decide) ?_
    refine ⟨1, 0, th, _, _, _, _, _, _, _, _, _, _, _, _, bw, _, _, rfl, rfl, rfl, ?_⟩
    refine x_RM_message_19 K hr c_RM_forget (by decide) ⟨fun z => absurd z (by decide), fun _ => ?_⟩
    exact hp _ (rm_th 1 hw0)
def sp_RM_rule : am_S := fun av w post => ∃ (R : sp_R) (room : Nat) (E : sp_E) (th a b c : Int32), av = [aR 0, aI a, aI b, aI c] ∧ w.length = 19 ∧ (rm R room E th w) ∧ (∀ w' : List am_C, rm (o_rule R E a b c).2.1 room (o_rule R E a b c).2.2 (nI (o_rule R E a b c).1.1) w' → post (some (aI (o_rule R E a b c).1.2)) w')
set_option maxRecDepth 20000 in
set_option maxHeartbeats 2000000 in
theorem c_RM_rule : Con y_RM_rule b_RM_rule 4 (some .int) 1 0 0 false sp_RM_rule := by
  refine Con.of (by decide) (fun av w post h => by obtain ⟨R, room, E, th, a, b, c, rfl, -⟩ := h; exact Nat.le_of_ble_eq_true rfl) ?_
  intro X K hnm av w post h hr _
  obtain ⟨R, room, E, th, a, b, c, rfl, hlen, hw, hp⟩ := h
  obtain ⟨c0, c1, c2, c3, c4, c5, c6, c7, c8, c9, c10, c11, c12, c13, c14, c15, c16, c17, c18, rfl⟩ := len19 hlen
  have hw0 := hw
  obtain ⟨hR, hE, hro, -⟩ := rm_vs hw
  have hb := hR.1
  have hzr := hE.1.1
  obtain ⟨sm, at9, o, nx, ls, bw, xf, xe, xt, xn, xk, xw, xb, nm, ro, od, le, pa, br, so, al, ot, hwe, -, -, -, hA, hN, hS, hO, hbw⟩ := hw
  rw [hwe] at hw0 ⊢
  clear hwe
  unfold o_rule at hp
  have k39 : o_rule1 R a b c → AW X 39 [some (aR 0), some (aI a), some (aI b), some (aI c)] [aR 0] [cRM th (nI (rN R)) (nI room) (nI (rS R)) (nI (rK R)) (nI (rU R)) (nI (sp_fc (rN R))) (nI (eZ E)) (nI (eG E)) (nI (eT E)) (nI (eO E)) (nI (eK E)) (rc_en (eN E)) bw sm at9, iC 40 xf, iC 40 xe, iC 40 xt, iC 40 xn, iC 160 xk, iC 160 xw, zC 64 xb, iC 96 nm, iC 98304 ro, iC 8192 od, iC 8192 le, iC 8192 pa, iC 8192 br, iC 8192 so, iC 8192 al, iC 12 nx, iC 12 ot, iC 12 ls] 0 0 := by
    intro h1
    rw [if_pos h1] at hp
    refine x_RM_rule_39 K hr ?_
    have fin : ∀ s : Int32, AW X 58 [some (aR 0), some (aI a), some (aI b), some (aI c)] [aI s, aI 1, aR 0] [cRM th (nI (rN R)) (nI room) (nI (rS R)) (nI (rK R)) (nI (rU R)) (nI (sp_fc (rN R))) (nI (eZ E)) (nI (eG E)) (nI (eT E)) (nI (eO E)) (nI (eK E)) (rc_en (eN E)) bw sm at9, iC 40 xf, iC 40 xe, iC 40 xt, iC 40 xn, iC 160 xk, iC 160 xw, zC 64 xb, iC 96 nm, iC 98304 ro, iC 8192 od, iC 8192 le, iC 8192 pa, iC 8192 br, iC 8192 so, iC 8192 al, iC 12 nx, iC 12 ot, iC 12 ls] 0 0 := by
      intro s
      refine x_RM_rule_58 K hr c_RM_throwing (by decide) ?_
      refine ⟨1, s, th, _, _, _, _, _, _, _, _, _, _, _, _, bw, _, _, rfl, rfl, rfl, ?_⟩
      rw [if_neg (show ¬ ((1 : Int32) = 0) by decide), if_neg (show ¬ ((1 : Int32) = 0) by decide)]
      refine x_RM_rule_61 K hr c_RM_forget (by decide) ⟨fun z => absurd z (by decide), fun _ => ?_⟩
      exact hp _ (rm_th 1 hw0)
    exact x_RM_rule_44 K hr ⟨fun _ => fin 0, fun _ => fin 1⟩
  have k43 : ¬ o_rule1 R a b c → AW X 43 [some (aR 0), some (aI a), some (aI b), some (aI c)] [aR 0] [cRM th (nI (rN R)) (nI room) (nI (rS R)) (nI (rK R)) (nI (rU R)) (nI (sp_fc (rN R))) (nI (eZ E)) (nI (eG E)) (nI (eT E)) (nI (eO E)) (nI (eK E)) (rc_en (eN E)) bw sm at9, iC 40 xf, iC 40 xe, iC 40 xt, iC 40 xn, iC 160 xk, iC 160 xw, zC 64 xb, iC 96 nm, iC 98304 ro, iC 8192 od, iC 8192 le, iC 8192 pa, iC 8192 br, iC 8192 so, iC 8192 al, iC 12 nx, iC 12 ot, iC 12 ls] 0 0 := by
    intro h1
    rw [if_neg h1] at hp
    have q1 : o_in a (rS R) := Decidable.byContradiction fun z => h1 (Or.inl z)
    have q2 : o_in c (rS R) := Decidable.byContradiction fun z => h1 (Or.inr (Or.inl z))
    have q3 : b = (-1) ∨ o_in b (rK R) := by
      by_cases q : b = (-1)
      · exact Or.inl q
      · exact Or.inr (Decidable.byContradiction fun z => h1 (Or.inr (Or.inr ⟨q, z⟩)))
    obtain ⟨e1, l1⟩ := o_in_nat (by omega) q1
    obtain ⟨e2, l2⟩ := o_in_nat (by omega) q2
    obtain ⟨e3, l3, e4⟩ := o_evt (by omega) q3
    refine x_RM_rule_43 K hr ?_
    refine x_RM_rule_44 K hr ⟨fun z => ?_, fun z => ?_⟩
    · have h40 : rU R < 40 := by
        have : rU R ≠ 40 := fun q => z (by rw [q]; rfl)
        omega
      rw [if_neg (by omega)] at hp
      refine x_RM_rule_58 K hr c_RM_throwing (by decide) ?_
      refine ⟨0, 0, th, _, _, _, _, _, _, _, _, _, _, _, _, bw, _, _, rfl, rfl, rfl, ?_⟩
      refine x_RM_rule_61 K hr c_RM_forget (by decide) ⟨fun _ => ?_, fun z => absurd rfl z⟩
      refine ⟨R, room, E, 0, rfl, rfl, rm_th 0 hw0, fun w' hw' => ?_⟩
      obtain ⟨sm, at9, o, nx, ls, bw, xf, xe, xt, xn, xk, xw, xb, nm, ro, od, le, pa, br, so, al, ot, rfl, hR', hE', hro', hA, hN, hS, hO, hbw⟩ := hw'
      have hin : vp_in (nI (rU R)) 40 := vp_in_nI (by omega) (by decide)
      refine x_RM_rule_70 K hr ⟨hin, hin, hin, hin, ?_⟩
      rw [nI_1, nI_pred, nI_clamp (by omega)]
      refine hp _ ⟨sm, at9, o, nx, ls, bw, upd xf (rU R) a, upd xe (rU R) b, upd xt (rU R) c, upd xn (rU R) 0, xk, xw, xb, nm, ro, od, le, pa, br, so, al, ot, rfl, rv_rule hR h40 l1 l3 l2, ev_E0 _ _ _ _ _ _ _ _, hro', ⟨fun r hr9 => ?_, hA.2⟩, hN, hS, hO, hbw⟩
      have hr9' : r < rU R + 1 := hr9
      show upd xf (rU R) a r = nI (upN (rF R) (rU R) a.toNatClampNeg r) ∧ upd xe (rU R) b r = nI (upN (rV R) (rU R) (b + 1).toNatClampNeg r) - 1 ∧ upd xt (rU R) c r = nI (upN (rT R) (rU R) c.toNatClampNeg r) ∧ upd xn (rU R) 0 r = nI (upN (rC R) (rU R) 0 r) ∧ ∀ i, i < upN (rC R) (rU R) 0 r → xk (4 * r + i) = nI (rk R (4 * r + i)) ∧ xw (4 * r + i) = nI (rW R (4 * r + i))
      by_cases er : r = rU R
      · rw [er, upN_s, upN_s, upN_s, upN_s, pk_us, pk_us, pk_us, pk_us]
        exact ⟨e1, e3, e2, rfl, fun i hi => by omega⟩
      · rw [upN_n _ _ er, upN_n _ _ er, upN_n _ _ er, upN_n _ _ er, pk_un er, pk_un er, pk_un er, pk_un er]
        exact hA.1 r (by omega)
    · have h40 : rU R = 40 := (nI_eq (b := 40) (by omega) (by decide)).mp z
      rw [if_pos (by omega)] at hp
      refine x_RM_rule_58 K hr c_RM_throwing (by decide) ?_
      refine ⟨0, 1, th, _, _, _, _, _, _, _, _, _, _, _, _, bw, _, _, rfl, rfl, rfl, ?_⟩
      refine x_RM_rule_61 K hr c_RM_forget (by decide) ⟨fun z => absurd z (by decide), fun _ => ?_⟩
      exact hp _ (rm_th 2 hw0)
  refine x_RM_rule_0 K hr c_RM_isOf (by decide) ?_
  refine ⟨a, _, rfl, rfl, ?_⟩
  by_cases h1 : o_in a (rS R)
  · rw [if_pos h1]
    refine x_RM_rule_9 K hr c_RM_isOf (by decide) ⟨fun z => absurd z (by decide), fun _ => ?_⟩
    refine ⟨c, _, rfl, rfl, ?_⟩
    by_cases h2 : o_in c (rS R)
    · rw [if_pos h2]
      refine x_RM_rule_20 K hr c_RM_isOf (by decide) ⟨fun z => absurd z (by decide), fun _ => ⟨fun z => ?_, fun z => ?_⟩⟩
      · exact k43 (fun q => by rcases q with q | q | ⟨q, -⟩; exact q h1; exact q h2; exact q z)
      · refine ⟨b, _, rfl, rfl, ?_⟩
        by_cases h3 : o_in b (rK R)
        · rw [if_pos h3]
          exact x_RM_rule_36 K hr ⟨fun _ => k43 (fun q => by rcases q with q | q | ⟨-, q⟩; exact q h1; exact q h2; exact q h3), fun z => absurd z (by decide)⟩
        · rw [if_neg h3]
          exact x_RM_rule_36 K hr ⟨fun q => absurd rfl q, fun _ => k39 (Or.inr (Or.inr ⟨z, h3⟩))⟩
    · rw [if_neg h2]
      exact x_RM_rule_20 K hr c_RM_isOf (by decide) ⟨fun _ => k39 (Or.inr (Or.inl h2)), fun q => absurd rfl q⟩
  · rw [if_neg h1]
    exact x_RM_rule_9 K hr c_RM_isOf (by decide) ⟨fun _ => k39 (Or.inl h1), fun q => absurd rfl q⟩
def sp_RM_sends : am_S := fun av w post => ∃ (R : sp_R) (room : Nat) (E : sp_E) (th a b c : Int32), av = [aR 0, aI a, aI b, aI c] ∧ w.length = 19 ∧ (rm R room E th w) ∧ (∀ w' : List am_C, rm (o_sends R E a b c).2.1 room (o_sends R E a b c).2.2 (nI (o_sends R E a b c).1.1) w' → post (some (aI (o_sends R E a b c).1.2)) w')
set_option maxRecDepth 20000 in
set_option maxHeartbeats 2000000 in
theorem c_RM_sends : Con y_RM_sends b_RM_sends 5 (some .int) 1 0 0 false sp_RM_sends := by
  refine Con.of (by decide) (fun av w post h => by obtain ⟨R, room, E, th, a, b, c, rfl, -⟩ := h; exact Nat.le_of_ble_eq_true rfl) ?_
  intro X K hnm av w post h hr _
  obtain ⟨R, room, E, th, a, b, c, rfl, hlen, hw, hp⟩ := h
  obtain ⟨c0, c1, c2, c3, c4, c5, c6, c7, c8, c9, c10, c11, c12, c13, c14, c15, c16, c17, c18, rfl⟩ := len19 hlen
  have hw0 := hw
  obtain ⟨hR, hE, hro, -⟩ := rm_vs hw
  have hb := hR.1
  have hzr := hE.1.1
  obtain ⟨sm, at9, o, nx, ls, bw, xf, xe, xt, xn, xk, xw, xb, nm, ro, od, le, pa, br, so, al, ot, hwe, -, -, -, hA, hN, hS, hO, hbw⟩ := hw
  rw [hwe] at hw0 ⊢
  clear hwe
  unfold o_sends at hp
  have k82 : o_sends1 R a b c → ∀ s : Int32, AW X 82 [some (aR 0), some (aI a), some (aI b), some (aI c), none] [aI s, aI 1, aR 0] [cRM th (nI (rN R)) (nI room) (nI (rS R)) (nI (rK R)) (nI (rU R)) (nI (sp_fc (rN R))) (nI (eZ E)) (nI (eG E)) (nI (eT E)) (nI (eO E)) (nI (eK E)) (rc_en (eN E)) bw sm at9, iC 40 xf, iC 40 xe, iC 40 xt, iC 40 xn, iC 160 xk, iC 160 xw, zC 64 xb, iC 96 nm, iC 98304 ro, iC 8192 od, iC 8192 le, iC 8192 pa, iC 8192 br, iC 8192 so, iC 8192 al, iC 12 nx, iC 12 ot, iC 12 ls] 0 0 := by
    intro h1 s
    rw [if_pos h1] at hp
    refine x_RM_sends_82 K hr c_RM_throwing (by decide) ?_
    refine ⟨1, s, th, _, _, _, _, _, _, _, _, _, _, _, _, bw, _, _, rfl, rfl, rfl, ?_⟩
    rw [if_neg (show ¬ ((1 : Int32) = 0) by decide), if_neg (show ¬ ((1 : Int32) = 0) by decide)]
    refine x_RM_sends_85 K hr c_RM_forget (by decide) ⟨fun z => absurd z (by decide), fun _ => ?_⟩
    exact hp _ (rm_th 1 hw0)
  have k30 : o_sends1 R a b c → AW X 30 [some (aR 0), some (aI a), some (aI b), some (aI c), none] [] [cRM th (nI (rN R)) (nI room) (nI (rS R)) (nI (rK R)) (nI (rU R)) (nI (sp_fc (rN R))) (nI (eZ E)) (nI (eG E)) (nI (eT E)) (nI (eO E)) (nI (eK E)) (rc_en (eN E)) bw sm at9, iC 40 xf, iC 40 xe, iC 40 xt, iC 40 xn, iC 160 xk, iC 160 xw, zC 64 xb, iC 96 nm, iC 98304 ro, iC 8192 od, iC 8192 le, iC 8192 pa, iC 8192 br, iC 8192 so, iC 8192 al, iC 12 nx, iC 12 ot, iC 12 ls] 0 0 := by
    intro h1
    refine x_RM_sends_30 K hr ?_
    refine x_RM_sends_35 K hr ⟨fun _ => ?_, fun z => absurd z (by decide)⟩
    refine x_RM_sends_57 K hr ?_
    refine x_RM_sends_62 K hr ⟨fun _ => ?_, fun z => absurd z (by decide)⟩
    exact x_RM_sends_81 K hr (k82 h1 0)
  refine x_RM_sends_0 K hr c_RM_isOf (by decide) ?_
  refine ⟨a, _, rfl, rfl, ?_⟩
  by_cases h1 : o_in a (rU R)
  · rw [if_pos h1]
    obtain ⟨e1, l1⟩ := o_in_nat (by omega) h1
    have hin : vp_in a 40 := by rw [e1]; exact vp_in_nI (by omega) (by decide)
    obtain ⟨a1, a2, a3, a4, a5⟩ := hA.1 _ l1
    obtain ⟨b1, b2, b3, b4, b5⟩ := hR.2.1 _ l1
    have hev : xe a.toNatClampNeg = (-1) ↔ rV R a.toNatClampNeg = 0 := by rw [a2]; exact nI_m1 (by omega)
    refine x_RM_sends_8 K hr c_RM_isOf (by decide) ⟨fun z => absurd z (by decide), fun _ => ?_⟩
    refine ⟨b, _, rfl, rfl, ?_⟩
    by_cases h2 : o_in b (rK R)
    · rw [if_pos h2]
      refine x_RM_sends_19 K hr c_RM_isOf (by decide) ⟨fun z => absurd z (by decide), fun _ => ?_⟩
      refine ⟨c, _, rfl, rfl, ?_⟩
      by_cases h3 : o_in c 2
      · rw [if_pos (show 0 ≤ c ∧ c < 2 from h3)]
        refine x_RM_sends_27 K hr ⟨fun _ => ?_, fun z => absurd z (by decide)⟩
        have h4n : xn a.toNatClampNeg = 4 ↔ rC R a.toNatClampNeg = 4 := by rw [a4]; exact nI_eq (b := 4) (by omega) (by decide)
        have k57 : o_sends1 R a b c → AW X 57 [some (aR 0), some (aI a), some (aI b), some (aI c), some (aI 0)] [aR 0] [cRM th (nI (rN R)) (nI room) (nI (rS R)) (nI (rK R)) (nI (rU R)) (nI (sp_fc (rN R))) (nI (eZ E)) (nI (eG E)) (nI (eT E)) (nI (eO E)) (nI (eK E)) (rc_en (eN E)) bw sm at9, iC 40 xf, iC 40 xe, iC 40 xt, iC 40 xn, iC 160 xk, iC 160 xw, zC 64 xb, iC 96 nm, iC 98304 ro, iC 8192 od, iC 8192 le, iC 8192 pa, iC 8192 br, iC 8192 so, iC 8192 al, iC 12 nx, iC 12 ot, iC 12 ls] 0 0 := by
          intro h5
          refine x_RM_sends_57 K hr ?_
          refine x_RM_sends_62 K hr ⟨fun z => absurd rfl z, fun _ => ⟨hin, fun _ => ?_, fun _ => ?_⟩⟩
          · exact x_RM_sends_81 K hr (k82 h5 0)
          · exact k82 h5 1
        have k61 : ¬ o_sends1 R a b c → AW X 61 [some (aR 0), some (aI a), some (aI b), some (aI c), some (aI 0)] [aR 0] [cRM th (nI (rN R)) (nI room) (nI (rS R)) (nI (rK R)) (nI (rU R)) (nI (sp_fc (rN R))) (nI (eZ E)) (nI (eG E)) (nI (eT E)) (nI (eO E)) (nI (eK E)) (rc_en (eN E)) bw sm at9, iC 40 xf, iC 40 xe, iC 40 xt, iC 40 xn, iC 160 xk, iC 160 xw, zC 64 xb, iC 96 nm, iC 98304 ro, iC 8192 od, iC 8192 le, iC 8192 pa, iC 8192 br, iC 8192 so, iC 8192 al, iC 12 nx, iC 12 ot, iC 12 ls] 0 0 := by
          intro h5
          rw [if_neg h5] at hp
          obtain ⟨e2, l2⟩ := o_in_nat (by omega) h2
          obtain ⟨e3, l3⟩ := o_in_nat (by decide) h3
          have h6 : c.toNatClampNeg = 0 → rV R a.toNatClampNeg ≠ 0 := fun z1 z2 => h5 (Or.inr (Or.inr (Or.inr ⟨by rw [e3, z1]; rfl, z2⟩)))
          refine x_RM_sends_61 K hr ?_
          refine x_RM_sends_62 K hr ⟨fun z => absurd rfl z, fun _ => ⟨hin, fun z => ?_, fun z => ?_⟩⟩
          · have h4 : rC R a.toNatClampNeg < 4 := by
              have : rC R a.toNatClampNeg ≠ 4 := fun q => z (h4n.mpr q)
              omega
            rw [if_neg (by omega)] at hp
            refine x_RM_sends_81 K hr ?_
            refine x_RM_sends_82 K hr c_RM_throwing (by decide) ?_
            refine ⟨0, 0, th, _, _, _, _, _, _, _, _, _, _, _, _, bw, _, _, rfl, rfl, rfl, ?_⟩
            refine x_RM_sends_85 K hr c_RM_forget (by decide) ⟨fun _ => ?_, fun z => absurd rfl z⟩
            refine ⟨R, room, E, 0, rfl, rfl, rm_th 0 hw0, fun w' hw' => ?_⟩
            obtain ⟨sm, at9, o, nx, ls, bw, xf, xe, xt, xn, xk, xw, xb, nm, ro, od, le, pa, br, so, al, ot, rfl, hR', hE', hro', hA, hN, hS, hO, hbw⟩ := hw'
            obtain ⟨a1, a2, a3, a4, a5⟩ := hA.1 _ l1
            obtain ⟨r, hr1⟩ : ∃ r, r = a.toNatClampNeg := ⟨_, rfl⟩
            have ex : ((4 : Int32) * a) + xn a.toNatClampNeg = nI (4 * r + rC R r) := by
              rw [a4, ← hr1]
              have e1' : a = nI r := by rw [hr1]; exact e1
              rw [e1', x4]
            refine x_RM_sends_94 K hr ?_
            rw [ex, nI_clamp (n := 4 * r + rC R r) (by rw [hr1]; omega), pk_us, a4, nI_1]
            rw [← hr1] at hp l1 h4 h6 b4 ⊢
            have hin2 : vp_in (nI (4 * r + rC R r)) 160 := vp_in_nI (by omega) (by decide)
            refine ⟨hin, hin2, hin, hin2, hin, hin, hin, ?_⟩
            refine hp _ ⟨sm, at9, o, nx, ls, bw, xf, xe, xt, upd xn r (nI (rC R r + 1)), upd xk (4 * r + rC R r) b, upd xw (4 * r + rC R r) c, xb, nm, ro, od, le, pa, br, so, al, ot, rfl, rv_send hR l1 l2 l3 h4 h6, ev_E0 _ _ _ _ _ _ _ _, hro', ⟨fun q hq => ?_, hA.2⟩, hN, hS, hO, hbw⟩
            have hq' : q < rU R := hq
            obtain ⟨c1, c2, c3, c4, c6⟩ := hA.1 q hq'
            refine ⟨c1, c2, c3, ?_, fun i hi => ?_⟩
            · show upd xn r (nI (rC R r + 1)) q = nI (upN (rC R) r (rC R r + 1) q)
              by_cases er : q = r
              · rw [er, pk_us, upN_s]
              · rw [pk_un er, upN_n _ _ er]; exact c4
            · have hi' : i < upN (rC R) r (rC R r + 1) q := hi
              show upd xk (4 * r + rC R r) b (4 * q + i) = nI (upN (rk R) (4 * r + rC R r) b.toNatClampNeg (4 * q + i)) ∧ upd xw (4 * r + rC R r) c (4 * q + i) = nI (upN (rW R) (4 * r + rC R r) c.toNatClampNeg (4 * q + i))
              by_cases er : q = r
              · rw [er] at hi' c6 ⊢
                rw [upN_s] at hi'
                by_cases ei : i = rC R r
                · rw [ei, pk_us, pk_us, upN_s, upN_s]; exact ⟨e2, e3⟩
                · rw [pk_un (by omega), pk_un (by omega), upN_n _ _ (by omega), upN_n _ _ (by omega)]
                  exact c6 i (by omega)
              · rw [upN_n _ _ er] at hi'
                have := (hR.2.1 q hq').2.2.2.1
                rw [pk_un (by omega), pk_un (by omega), upN_n _ _ (by omega), upN_n _ _ (by omega)]
                exact c6 i hi'
          · have h4 : rC R a.toNatClampNeg = 4 := h4n.mp z
            rw [if_pos (by omega)] at hp
            refine x_RM_sends_82 K hr c_RM_throwing (by decide) ?_
            refine ⟨0, 1, th, _, _, _, _, _, _, _, _, _, _, _, _, bw, _, _, rfl, rfl, rfl, ?_⟩
            refine x_RM_sends_85 K hr c_RM_forget (by decide) ⟨fun z => absurd z (by decide), fun _ => ?_⟩
            exact hp _ (rm_th 2 hw0)
        refine x_RM_sends_35 K hr ⟨fun z => absurd rfl z, fun _ => ⟨fun z => ?_, fun z => ⟨hin, fun z2 => ?_, fun z2 => ?_⟩⟩⟩
        · exact k61 (fun q => by rcases q with q | q | q | ⟨q, -⟩; exact q h1; exact q h2; exact q h3; exact z q)
        · exact k61 (fun q => by rcases q with q | q | q | ⟨-, q⟩; exact q h1; exact q h2; exact q h3; exact z2 (hev.mpr q))
        · exact k57 (Or.inr (Or.inr (Or.inr ⟨z, hev.mp z2⟩)))
      · rw [if_neg (show ¬ (0 ≤ c ∧ c < 2) from h3)]
        exact x_RM_sends_27 K hr ⟨fun q => absurd rfl q, fun _ => k30 (Or.inr (Or.inr (Or.inl h3)))⟩
    · rw [if_neg h2]
      exact x_RM_sends_19 K hr c_RM_isOf (by decide) ⟨fun _ => k30 (Or.inr (Or.inl h2)), fun q => absurd rfl q⟩
  · rw [if_neg h1]
    exact x_RM_sends_8 K hr c_RM_isOf (by decide) ⟨fun _ => k30 (Or.inl h1), fun q => absurd rfl q⟩

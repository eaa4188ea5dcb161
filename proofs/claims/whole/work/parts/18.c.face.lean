/-! ===== CONTRACTS: the class's face: way, wayAt, count, run; and all of them ===== -/
def sp_St_beforeLast : am_S := fun av w post => ∃ (R : sp_R) (room e i : Nat) (E : sp_E), av = [aR 9, aI (nI i)] ∧ w.length = 26 ∧ (rx R room e E w) ∧ (0 < eZ E) ∧ (i < 2 ^ 31) ∧ (post (some (aI (nI (sp_wy E i (eZ E) (eZ E - 1))))) w)
set_option maxRecDepth 20000 in
set_option maxHeartbeats 2000000 in
theorem c_St_beforeLast : Con y_St_beforeLast b_St_beforeLast 4 (some .int) 1 0 0 false sp_St_beforeLast := by
  refine Con.of (by decide) (fun av w post h => by obtain ⟨R, room, e, i, E, rfl, -⟩ := h; exact Nat.le_of_ble_eq_true rfl) ?_
  intro X K hnm av w post h hr _
  obtain ⟨R, room, e, i, E, rfl, hlen, hw, hz0, hi, hp⟩ := h
  obtain ⟨c0, c1, c2, c3, c4, c5, c6, c7, c8, c9, c10, c11, c12, c13, c14, c15, c16, c17, c18, c19, c20, c21, c22, c23, c24, c25, rfl⟩ := len26 hlen
  obtain ⟨hR, hE, he⟩ := rx_vs hw
  obtain ⟨here, uz, us, uc, bp, uf, vf, uy, vz, vy, ms, me, mt, mn, mk, mw, mg, le, og, ru, sp, sy, sa, uo, vs, vc, vo, fo, hwe, -, -, -, -, hS⟩ := hw
  rw [hwe] at hp ⊢
  clear hwe
  have hz := hE.1.1
  have he2 := he.2.1
  have key : ∀ (t j k : Nat), j + t = eZ E → k < eZ E → post (some (aI (nI (sp_wy E i t k)))) [oC 0 [aR 1, aR 9, aR 17], cMo (nI (rN R)) (nI (rS R)) (nI (rK R)) (nI (rU R)) bp, iC 40 ms, iC 40 me, iC 40 mt, iC 40 mn, iC 160 mk, iC 160 mw, iC 40 mg, cSt (nI (eZ E)), jC room fo, iC room le, iC room og, iC room ru, iC room sp, iC room sy, iC (2 ^ e) sa, cEx (rc_en (eN E)) (nI (eG E)) (nI (eT E)) (nI (eO E)) (nI (eK E)) (nI (rc_sd (sp_fc (rN R)) (eY E) (eZ E))) (nI here), cDu (nI (rN R)) (nI (sp_fc (rN R))) uz uf uy, iC 4 us, iC 7 uc, iC 7 uo, cDv (nI (rN R)) (nI (sp_fc (rN R))) vz vf vy, iC 4 vs, iC 7 vc, iC 7 vo] → AW X 9 [some (aR 9), some (aI (nI i)), some (aI (nI k)), some (aI (nI j))] [] [oC 0 [aR 1, aR 9, aR 17], cMo (nI (rN R)) (nI (rS R)) (nI (rK R)) (nI (rU R)) bp, iC 40 ms, iC 40 me, iC 40 mt, iC 40 mn, iC 160 mk, iC 160 mw, iC 40 mg, cSt (nI (eZ E)), jC room fo, iC room le, iC room og, iC room ru, iC room sp, iC room sy, iC (2 ^ e) sa, cEx (rc_en (eN E)) (nI (eG E)) (nI (eT E)) (nI (eO E)) (nI (eK E)) (nI (rc_sd (sp_fc (rN R)) (eY E) (eZ E))) (nI here), cDu (nI (rN R)) (nI (sp_fc (rN R))) uz uf uy, iC 4 us, iC 7 uc, iC 7 uo, cDv (nI (rN R)) (nI (sp_fc (rN R))) vz vf vy, iC 4 vs, iC 7 vc, iC 7 vo] 0 0 := by
    intro t
    induction t with
    | zero =>
      intro j k h1 h2 hp
      exact x_St_beforeLast_9 K hr c_St_has (by decide) ⟨fun _ => hp, fun z => absurd (nI_le (by omega) (by omega)) z⟩
    | succ t ih =>
      intro j k h1 h2 hp
      refine x_St_beforeLast_9 K hr c_St_has (by decide) ⟨fun z => absurd z (nI_ge (by omega) (by omega)), fun _ => ?_⟩
      refine ⟨_, _, rfl, rfl, rfl, ?_⟩
      rw [if_pos ⟨nI_pos' (by omega), nI_lt h2 (by omega)⟩]
      have hlev := ev_lev hE k k (Nat.le_refl _) h2
      obtain ⟨q1, q2, q3, q4, q5, q6⟩ := hS.1 k h2
      refine x_St_beforeLast_22 K hr ⟨fun z => absurd z (by decide), fun _ => ⟨vp_in_nI (by omega) (by omega), ?_⟩⟩
      rw [nI_clamp (by omega), q2, q3]
      have hstep : sp_wy E i (t + 1) k = if eL E k ≤ i then k else sp_wy E i t (eP E k - 1) := rfl
      refine ⟨fun z => ?_, fun z => ⟨vp_in_nI (by omega) (by omega), ?_⟩⟩
      · have z' : eL E k ≤ i := (nI_leI (by omega) hi).mp z
        rw [hstep, if_pos z'] at hp
        exact hp
      · have z' : ¬ eL E k ≤ i := fun q => z ((nI_leI (by omega) hi).mpr q)
        rw [hstep, if_neg z'] at hp
        rcases hE.2.2.2.1 k h2 with ⟨a1, a2, a3⟩ | ⟨p, a1, a2, a3⟩
        · omega
        · rw [a1, Nat.add_sub_cancel] at hp
          rw [a1, nI_pred, nI_1]
          exact ih (j + 1) p (by omega) (by omega) hp
  refine x_St_beforeLast_0 K hr ?_
  obtain ⟨z, hz1⟩ : ∃ z, eZ E = z + 1 := ⟨eZ E - 1, by omega⟩
  have e1 : nI (eZ E) - 1 = nI (eZ E - 1) := by rw [hz1, nI_pred, Nat.add_sub_cancel]
  rw [e1]
  exact key (eZ E) 0 (eZ E - 1) (by omega) (by omega) hp
theorem rc_en2 {n : Nat} (h : n < 3) : rc_en n = (-2) ↔ n = 2 := by
  rcases (show n = 0 ∨ n = 1 ∨ n = 2 by omega) with rfl | rfl | rfl <;> decide
theorem o_lt1 {a : Int32} {n : Nat} (hn : n + 1 < 2 ^ 31) : a < nI (n + 1) ↔ a ≤ nI n := by
  rw [Int32.lt_iff_toInt_lt, Int32.le_iff_toInt_le, nI_toInt hn, nI_toInt (by omega)]
  omega
set_option maxRecDepth 20000 in
theorem m_SE_wayAt {X : am_X} {dd bc bs : Nat} {post : Option am_V → List am_C → Prop} (K : am_ok X b_SE_wayAt R_SE 2 dd) (hr : am_rt X (some .int) post) (hdd : 3 ≤ dd) {R : sp_R} {room e : Nat} {E : sp_E} {w : List am_C} {a : Int32} (hw : rx R room e E w)
    (hI : o_wayAt1 E a → ∀ lv, AW X 27 lv [] w bc bs) (hp : ¬ o_wayAt1 E a → post (some (aI (nI (sp_wy E a.toNatClampNeg (eZ E) (eZ E - 1))))) w) : AW X 0 [some (aR 0), some (aI a)] [] w bc bs := by
  obtain ⟨hR, hE, he⟩ := rx_vs hw
  have hw0 := hw
  obtain ⟨here, uz, us, uc, bp, uf, vf, uy, vz, vy, ms, me, mt, mn, mk, mw, mg, le, og, ru, sp, sy, sa, uo, vs, vc, vo, fo, rfl, -, -, -, -, hS⟩ := hw
  have hz := hE.1.1
  have he2 := he.2.1
  refine x_SE_wayAt_0 K hr c_St_greatestLevel (by omega) ⟨fun z => hI (Or.inl (fun q => z ((rc_en2 hE.2.2.2.2.2.2.1).mpr q))) _, fun z => ⟨fun z2 => hI (Or.inr (fun q => absurd q.1 (Int32.not_le.mpr z2))) _, fun z2 => ?_⟩⟩
  have hn : eN E = 2 := (rc_en2 hE.2.2.2.2.2.2.1).mp z
  have hpos : 0 < eZ E := hE.2.2.2.2.2.2.2 hn
  have hlev := (ev_lev hE (eZ E - 1) (eZ E - 1) (Nat.le_refl _) (by omega)).1
  refine ⟨eZ E, room, le, rfl, rfl, rfl, rfl, hz, by omega, ?_⟩
  rw [if_neg (by omega), (hS.1 (eZ E - 1) (by omega)).2.1]
  refine x_SE_wayAt_24 K hr c_St_beforeLast (by omega) ⟨fun z3 => ?_, fun z3 => hI (Or.inr (fun q => z3 ((o_lt1 (by omega)).mp q.2))) _⟩
  have h2 : o_in a (eL E (eZ E - 1) + 1) := ⟨Int32.not_lt.mp z2, (o_lt1 (by omega)).mpr z3⟩
  replace hp := hp (fun q => by rcases q with q | q; exact q hn; exact q h2)
  obtain ⟨e1, l1⟩ := o_in_nat (by omega) h2
  generalize a.toNatClampNeg = a' at hp e1 l1
  subst e1
  refine ⟨R, room, e, a', E, rfl, rfl, hw0, hpos, by omega, ?_⟩
  exact x_SE_wayAt_45 K hr hp
def sp_SE_run : am_S := fun av w post => ∃ (R : sp_R) (room e : Nat) (E : sp_E), av = [aR 0] ∧ w.length = 26 ∧ (rx R room e E w) ∧ (∀ w' : List am_C, rx R room e (o_run R room E) w' → post (some (aI (o_runv (o_run R room E)))) w')
set_option maxRecDepth 20000 in
set_option maxHeartbeats 2000000 in
theorem c_SE_run : Con y_SE_run b_SE_run 1 (some .int) 7 0 0 false sp_SE_run := by
  refine Con.of (by decide) (fun av w post h => by obtain ⟨R, room, e, E, rfl, -⟩ := h; exact Nat.le_of_ble_eq_true rfl) ?_
  intro X K hnm av w post h hr _
  obtain ⟨R, room, e, E, rfl, hlen, hw, hp⟩ := h
  obtain ⟨c0, c1, c2, c3, c4, c5, c6, c7, c8, c9, c10, c11, c12, c13, c14, c15, c16, c17, c18, c19, c20, c21, c22, c23, c24, c25, rfl⟩ := len26 hlen
  have hw0 := hw
  obtain ⟨here, uz, us, uc, bp, uf, vf, uy, vz, vy, ms, me, mt, mn, mk, mw, mg, le, og, ru, sp, sy, sa, uo, vs, vc, vo, fo, hwe, -⟩ := hw
  rw [hwe] at hw0 ⊢
  clear hwe
  refine x_SE_run_0 K hr c_Ex_goOn (by decide) ?_
  refine ⟨R, room, e, 8192, E, rfl, rfl, hw0, by decide, fun w' hw' => ?_⟩
  have h9 := hp _ hw'
  unfold o_runv o_run at h9
  obtain ⟨here, uz, us, uc, bp, uf, vf, uy, vz, vy, ms, me, mt, mn, mk, mw, mg, le, og, ru, sp, sy, sa, uo, vs, vc, vo, fo, rfl, -⟩ := hw'
  refine x_SE_run_10 K hr ⟨fun z => ?_, fun z => ?_⟩
  · rw [if_neg (fun q => z ((rc_en0 _).mpr q))] at h9
    exact h9
  · rw [if_pos ((rc_en0 _).mp z)] at h9
    exact h9
def sp_SE_way : am_S := fun av w post => ∃ (R : sp_R) (room e : Nat) (E : sp_E), av = [aR 0] ∧ w.length = 26 ∧ (rx R room e E w) ∧ (post (some (aI (o_way E))) w)
set_option maxRecDepth 20000 in
set_option maxHeartbeats 2000000 in
theorem c_SE_way : Con y_SE_way b_SE_way 1 (some .int) 1 0 0 false sp_SE_way := by
  refine Con.of (by decide) (fun av w post h => by obtain ⟨R, room, e, E, rfl, -⟩ := h; exact Nat.le_of_ble_eq_true rfl) ?_
  intro X K hnm av w post h hr _
  obtain ⟨R, room, e, E, rfl, hlen, hw, hp⟩ := h
  obtain ⟨c0, c1, c2, c3, c4, c5, c6, c7, c8, c9, c10, c11, c12, c13, c14, c15, c16, c17, c18, c19, c20, c21, c22, c23, c24, c25, rfl⟩ := len26 hlen
  obtain ⟨hR, hE, he⟩ := rx_vs hw
  obtain ⟨here, uz, us, uc, bp, uf, vf, uy, vz, vy, ms, me, mt, mn, mk, mw, mg, le, og, ru, sp, sy, sa, uo, vs, vc, vo, fo, hwe, -, -, -, -, hS⟩ := hw
  rw [hwe] at hp ⊢
  clear hwe
  have hz := hE.1.1
  have he2 := he.2.1
  unfold o_way at hp
  refine x_SE_way_0 K hr c_St_greatestLevel (by decide) ⟨fun z => ?_, fun z => ?_⟩
  · rw [if_neg (fun q => z ((rc_en2 hE.2.2.2.2.2.2.1).mpr q))] at hp
    exact hp
  · have hn : eN E = 2 := (rc_en2 hE.2.2.2.2.2.2.1).mp z
    have hpos : 0 < eZ E := hE.2.2.2.2.2.2.2 hn
    rw [if_pos hn] at hp
    refine ⟨eZ E, room, le, rfl, rfl, rfl, rfl, hz, by omega, ?_⟩
    rw [if_neg (by omega), (hS.1 (eZ E - 1) (by omega)).2.1]
    exact x_SE_way_19 K hr hp
def sp_SE_count : am_S := fun av w post => ∃ (R : sp_R) (room e : Nat) (E : sp_E) (i : Int32), av = [aR 0, aI i] ∧ w.length = 26 ∧ (rx R room e E w) ∧ (post (some (aI (o_count R E i))) w)
set_option maxRecDepth 20000 in
set_option maxHeartbeats 2000000 in
theorem c_SE_count : Con y_SE_count b_SE_count 2 (some .int) 1 0 0 false sp_SE_count := by
  refine Con.of (by decide) (fun av w post h => by obtain ⟨R, room, e, E, i, rfl, -⟩ := h; exact Nat.le_of_ble_eq_true rfl) ?_
  intro X K hnm av w post h hr _
  obtain ⟨R, room, e, E, i, rfl, hlen, hw, hp⟩ := h
  obtain ⟨c0, c1, c2, c3, c4, c5, c6, c7, c8, c9, c10, c11, c12, c13, c14, c15, c16, c17, c18, c19, c20, c21, c22, c23, c24, c25, rfl⟩ := len26 hlen
  obtain ⟨hR, hE, he⟩ := rx_vs hw
  obtain ⟨here, uz, us, uc, bp, uf, vf, uy, vz, vy, ms, me, mt, mn, mk, mw, mg, le, og, ru, sp, sy, sa, uo, vs, vc, vo, fo, hwe, -, -, -, -, hS⟩ := hw
  rw [hwe] at hp ⊢
  clear hwe
  have hz := hE.1.1
  have he2 := he.2.1
  refine x_SE_count_0 K hr c_St_greatestLevel (by decide) ⟨fun z => ?_, fun z => ?_, fun z => ?_, fun z => ?_, fun z => ?_, fun z => ?_, fun z => ?_, fun z => ?_, fun z => ?_, fun z => ?_, fun z => ?_, fun z => ?_⟩
  all_goals first
    | (subst z; exact hp)
    | skip
  · subst z
    refine ⟨eZ E, room, le, rfl, rfl, rfl, rfl, hz, by omega, ?_⟩
    refine x_SE_count_115 K hr ?_
    have e6 : o_count R E 6 = o_lev E := rfl
    rw [e6] at hp
    unfold o_lev at hp
    by_cases q : eZ E = 0
    · rw [if_pos q] at hp ⊢; exact hp
    · rw [if_neg q] at hp ⊢
      rw [(hS.1 (eZ E - 1) (by omega)).2.1]
      exact hp
  · have hne : ∀ k : Int32, 0 ≤ k.toInt → k.toInt ≤ 10 → i ≠ k := fun k h1 h2 q => by subst q; omega
    have e : o_count R E i = (-1) := by
      unfold o_count
      rw [if_neg (hne 0 (by decide) (by decide)), if_neg (hne 1 (by decide) (by decide)), if_neg (hne 2 (by decide) (by decide)), if_neg (hne 3 (by decide) (by decide)), if_neg (hne 4 (by decide) (by decide)), if_neg (hne 5 (by decide) (by decide)), if_neg (hne 6 (by decide) (by decide)), if_neg (hne 7 (by decide) (by decide)), if_neg (hne 8 (by decide) (by decide)), if_neg (hne 9 (by decide) (by decide)), if_neg (hne 10 (by decide) (by decide))]
    rw [e] at hp
    exact hp
def sp_SE_state : am_S := fun av w post => ∃ (R : sp_R) (room e : Nat) (E : sp_E), av = [aR 0] ∧ rx R room e E w ∧ (rS R < 8) ∧ (∀ w', rx (rS1 R) room e (o_E0 E) w' → post (some (aI (nI (rS R)))) w')
theorem c_SE_state : Con y_SE_state b_SE_state 1 (some .int) 3 0 0 false sp_SE_state := by
  refine Con.of (by decide) (fun av w post h => by obtain ⟨R, room, e, E, rfl, -⟩ := h; exact Nat.le_of_ble_eq_true rfl) ?_
  intro X K hnm av w post h hr _
  obtain ⟨R, room, e, E, rfl, hw, hok, hp⟩ := h
  exact m_SE_state K hr (by decide) hw (fun z => absurd hok (Nat.not_lt.mpr z)) (fun _ => hp)
def spT_SE_state_U : List am_V → List am_C → Prop := fun av w => ∃ (R : sp_R) (room e : Nat) (E : sp_E), av = [aR 0] ∧ rx R room e E w ∧ (8 ≤ rS R)
theorem cT_SE_state_U : ConT y_SE_state b_SE_state 1 (some .int) 6 ax_U spT_SE_state_U := by
  refine ConT.of (by decide) (fun av w h => by obtain ⟨R, room, e, E, rfl, -⟩ := h; exact Nat.le_of_ble_eq_true rfl) ?_
  intro X K av w h hx hr
  obtain ⟨R, room, e, E, rfl, hw, hok⟩ := h
  have hdd6 : 6 ≤ 6 := by decide
  exact m_SE_state K hr (by decide) hw (fun _ => fun _ => aw_throw K hx ax_okU (by decide) hdd6 (by omega) (by omega) d_SE_state_12 d_SE_state_15 d_SE_state_16 d_SE_state_18 d_SE_state_21 rfl) (fun z => absurd z (Nat.not_lt.mpr hok))
def sp_SE_message : am_S := fun av w post => ∃ (R : sp_R) (room e : Nat) (E : sp_E), av = [aR 0] ∧ rx R room e E w ∧ (rK R < 6) ∧ (∀ w', rx (rK1 R) room e (o_E0 E) w' → post (some (aI (nI (rK R)))) w')
theorem c_SE_message : Con y_SE_message b_SE_message 1 (some .int) 3 0 0 false sp_SE_message := by
  refine Con.of (by decide) (fun av w post h => by obtain ⟨R, room, e, E, rfl, -⟩ := h; exact Nat.le_of_ble_eq_true rfl) ?_
  intro X K hnm av w post h hr _
  obtain ⟨R, room, e, E, rfl, hw, hok, hp⟩ := h
  exact m_SE_message K hr (by decide) hw (fun z => absurd hok (Nat.not_lt.mpr z)) (fun _ => hp)
def spT_SE_message_U : List am_V → List am_C → Prop := fun av w => ∃ (R : sp_R) (room e : Nat) (E : sp_E), av = [aR 0] ∧ rx R room e E w ∧ (6 ≤ rK R)
theorem cT_SE_message_U : ConT y_SE_message b_SE_message 1 (some .int) 6 ax_U spT_SE_message_U := by
  refine ConT.of (by decide) (fun av w h => by obtain ⟨R, room, e, E, rfl, -⟩ := h; exact Nat.le_of_ble_eq_true rfl) ?_
  intro X K av w h hx hr
  obtain ⟨R, room, e, E, rfl, hw, hok⟩ := h
  have hdd6 : 6 ≤ 6 := by decide
  exact m_SE_message K hr (by decide) hw (fun _ => fun _ => aw_throw K hx ax_okU (by decide) hdd6 (by omega) (by omega) d_SE_message_12 d_SE_message_15 d_SE_message_16 d_SE_message_18 d_SE_message_21 rfl) (fun z => absurd z (Nat.not_lt.mpr hok))
def sp_SE_rule : am_S := fun av w post => ∃ (R : sp_R) (room e : Nat) (E : sp_E) (a b c : Int32), av = [aR 0, aI a, aI b, aI c] ∧ rx R room e E w ∧ (¬ o_rule1 R a b c ∧ rU R < 40) ∧ (∀ w', rx (r_rule R a.toNatClampNeg (b + 1).toNatClampNeg c.toNatClampNeg) room e (o_E0 E) w' → post (some (aI (nI (rU R)))) w')
theorem c_SE_rule : Con y_SE_rule b_SE_rule 4 (some .int) 3 0 0 false sp_SE_rule := by
  refine Con.of (by decide) (fun av w post h => by obtain ⟨R, room, e, E, a, b, c, rfl, -⟩ := h; exact Nat.le_of_ble_eq_true rfl) ?_
  intro X K hnm av w post h hr _
  obtain ⟨R, room, e, E, a, b, c, rfl, hw, hok, hp⟩ := h
  exact m_SE_rule K hr (by decide) hw (fun z => absurd z hok.1) (fun _ z => absurd hok.2 (Nat.not_lt.mpr z)) (fun _ _ => hp)
def spT_SE_rule_I : List am_V → List am_C → Prop := fun av w => ∃ (R : sp_R) (room e : Nat) (E : sp_E) (a b c : Int32), av = [aR 0, aI a, aI b, aI c] ∧ rx R room e E w ∧ (o_rule1 R a b c)
theorem cT_SE_rule_I : ConT y_SE_rule b_SE_rule 4 (some .int) 6 ax_I spT_SE_rule_I := by
  refine ConT.of (by decide) (fun av w h => by obtain ⟨R, room, e, E, a, b, c, rfl, -⟩ := h; exact Nat.le_of_ble_eq_true rfl) ?_
  intro X K av w h hx hr
  obtain ⟨R, room, e, E, a, b, c, rfl, hw, hok⟩ := h
  have hdd6 : 6 ≤ 6 := by decide
  exact m_SE_rule K hr (by decide) hw (fun _ => fun _ => ⟨aw_throw K hx ax_okI (by decide) hdd6 (by omega) (by omega) d_SE_rule_22 d_SE_rule_25 d_SE_rule_26 d_SE_rule_28 d_SE_rule_31 rfl, aw_throw K hx ax_okI (by decide) hdd6 (by omega) (by omega) d_SE_rule_48 d_SE_rule_51 d_SE_rule_52 d_SE_rule_54 d_SE_rule_57 rfl⟩) (fun z => absurd hok z) (fun z => absurd hok z)
def spT_SE_rule_U : List am_V → List am_C → Prop := fun av w => ∃ (R : sp_R) (room e : Nat) (E : sp_E) (a b c : Int32), av = [aR 0, aI a, aI b, aI c] ∧ rx R room e E w ∧ (¬ o_rule1 R a b c ∧ 40 ≤ rU R)
theorem cT_SE_rule_U : ConT y_SE_rule b_SE_rule 4 (some .int) 6 ax_U spT_SE_rule_U := by
  refine ConT.of (by decide) (fun av w h => by obtain ⟨R, room, e, E, a, b, c, rfl, -⟩ := h; exact Nat.le_of_ble_eq_true rfl) ?_
  intro X K av w h hx hr
  obtain ⟨R, room, e, E, a, b, c, rfl, hw, hok⟩ := h
  have hdd6 : 6 ≤ 6 := by decide
  exact m_SE_rule K hr (by decide) hw (fun z => absurd z hok.1) (fun _ _ => fun _ => aw_throw K hx ax_okU (by decide) hdd6 (by omega) (by omega) d_SE_rule_70 d_SE_rule_73 d_SE_rule_74 d_SE_rule_76 d_SE_rule_79 rfl) (fun _ z => absurd z (Nat.not_lt.mpr hok.2))
def sp_SE_sends : am_S := fun av w post => ∃ (R : sp_R) (room e : Nat) (E : sp_E) (a b c : Int32), av = [aR 0, aI a, aI b, aI c] ∧ rx R room e E w ∧ (¬ o_sends1 R a b c ∧ rC R a.toNatClampNeg < 4) ∧ (∀ w', rx (r_send R a.toNatClampNeg b.toNatClampNeg c.toNatClampNeg) room e (o_E0 E) w' → post (some (aI (nI (rC R a.toNatClampNeg + 1)))) w')
theorem c_SE_sends : Con y_SE_sends b_SE_sends 4 (some .int) 3 0 0 false sp_SE_sends := by
  refine Con.of (by decide) (fun av w post h => by obtain ⟨R, room, e, E, a, b, c, rfl, -⟩ := h; exact Nat.le_of_ble_eq_true rfl) ?_
  intro X K hnm av w post h hr _
  obtain ⟨R, room, e, E, a, b, c, rfl, hw, hok, hp⟩ := h
  exact m_SE_sends K hr (by decide) hw (fun z => absurd z hok.1) (fun _ z => absurd hok.2 (Nat.not_lt.mpr z)) (fun _ _ => hp)
def spT_SE_sends_I : List am_V → List am_C → Prop := fun av w => ∃ (R : sp_R) (room e : Nat) (E : sp_E) (a b c : Int32), av = [aR 0, aI a, aI b, aI c] ∧ rx R room e E w ∧ (o_sends1 R a b c)
theorem cT_SE_sends_I : ConT y_SE_sends b_SE_sends 4 (some .int) 6 ax_I spT_SE_sends_I := by
  refine ConT.of (by decide) (fun av w h => by obtain ⟨R, room, e, E, a, b, c, rfl, -⟩ := h; exact Nat.le_of_ble_eq_true rfl) ?_
  intro X K av w h hx hr
  obtain ⟨R, room, e, E, a, b, c, rfl, hw, hok⟩ := h
  have hdd6 : 6 ≤ 6 := by decide
  exact m_SE_sends K hr (by decide) hw (fun _ => fun _ => ⟨aw_throw K hx ax_okI (by decide) hdd6 (by omega) (by omega) d_SE_sends_15 d_SE_sends_18 d_SE_sends_19 d_SE_sends_21 d_SE_sends_24 rfl, aw_throw K hx ax_okI (by decide) hdd6 (by omega) (by omega) d_SE_sends_36 d_SE_sends_39 d_SE_sends_40 d_SE_sends_42 d_SE_sends_45 rfl, aw_throw K hx ax_okI (by decide) hdd6 (by omega) (by omega) d_SE_sends_55 d_SE_sends_58 d_SE_sends_59 d_SE_sends_61 d_SE_sends_64 rfl, aw_throw K hx ax_okI (by decide) hdd6 (by omega) (by omega) d_SE_sends_82 d_SE_sends_85 d_SE_sends_86 d_SE_sends_88 d_SE_sends_91 rfl⟩) (fun z => absurd hok z) (fun z => absurd hok z)
def spT_SE_sends_U : List am_V → List am_C → Prop := fun av w => ∃ (R : sp_R) (room e : Nat) (E : sp_E) (a b c : Int32), av = [aR 0, aI a, aI b, aI c] ∧ rx R room e E w ∧ (¬ o_sends1 R a b c ∧ 4 ≤ rC R a.toNatClampNeg)
theorem cT_SE_sends_U : ConT y_SE_sends b_SE_sends 4 (some .int) 6 ax_U spT_SE_sends_U := by
  refine ConT.of (by decide) (fun av w h => by obtain ⟨R, room, e, E, a, b, c, rfl, -⟩ := h; exact Nat.le_of_ble_eq_true rfl) ?_
  intro X K av w h hx hr
  obtain ⟨R, room, e, E, a, b, c, rfl, hw, hok⟩ := h
  have hdd6 : 6 ≤ 6 := by decide
  exact m_SE_sends K hr (by decide) hw (fun z => absurd z hok.1) (fun _ _ => fun _ => aw_throw K hx ax_okU (by decide) hdd6 (by omega) (by omega) d_SE_sends_105 d_SE_sends_108 d_SE_sends_109 d_SE_sends_111 d_SE_sends_114 rfl) (fun _ z => absurd z (Nat.not_lt.mpr hok.2))
def sp_SE_bad : am_S := fun av w post => ∃ (R : sp_R) (room e : Nat) (E : sp_E) (a b : Int32), av = [aR 0, aI a, aI b] ∧ rx R room e E w ∧ (¬ o_bad1 R a b) ∧ ((rB R a.toNatClampNeg b.toNatClampNeg = true → post (some (aI 0)) w) ∧ (¬ rB R a.toNatClampNeg b.toNatClampNeg = true → ∀ w', rx (r_bad R a.toNatClampNeg b.toNatClampNeg) room e (o_E0 E) w' → post (some (aI 1)) w'))
theorem c_SE_bad : Con y_SE_bad b_SE_bad 3 (some .boolean) 3 0 0 false sp_SE_bad := by
  refine Con.of (by decide) (fun av w post h => by obtain ⟨R, room, e, E, a, b, rfl, -⟩ := h; exact Nat.le_of_ble_eq_true rfl) ?_
  intro X K hnm av w post h hr _
  obtain ⟨R, room, e, E, a, b, rfl, hw, hok, hp⟩ := h
  exact m_SE_bad K hr (by decide) hw (fun z => absurd z hok) (fun _ => hp.1) (fun _ => hp.2)
def spT_SE_bad_I : List am_V → List am_C → Prop := fun av w => ∃ (R : sp_R) (room e : Nat) (E : sp_E) (a b : Int32), av = [aR 0, aI a, aI b] ∧ rx R room e E w ∧ (o_bad1 R a b)
theorem cT_SE_bad_I : ConT y_SE_bad b_SE_bad 3 (some .boolean) 6 ax_I spT_SE_bad_I := by
  refine ConT.of (by decide) (fun av w h => by obtain ⟨R, room, e, E, a, b, rfl, -⟩ := h; exact Nat.le_of_ble_eq_true rfl) ?_
  intro X K av w h hx hr
  obtain ⟨R, room, e, E, a, b, rfl, hw, hok⟩ := h
  have hdd6 : 6 ≤ 6 := by decide
  exact m_SE_bad K hr (by decide) hw (fun _ => fun _ => aw_throw K hx ax_okI (by decide) hdd6 (by omega) (by omega) d_SE_bad_22 d_SE_bad_25 d_SE_bad_26 d_SE_bad_28 d_SE_bad_31 rfl) (fun z => absurd hok z) (fun z => absurd hok z)
def sp_SE_go : am_S := fun av w post => ∃ (R : sp_R) (room e : Nat) (E : sp_E) (a : Int32), av = [aR 0, aI a] ∧ rx R room e E w ∧ (¬ o_go1 a) ∧ (∀ w', rx R room e (sp_on R room a.toNatClampNeg (sp_bg R E)) w' → post (some (aI (nI (eZ (sp_on R room a.toNatClampNeg (sp_bg R E)))))) w')
theorem c_SE_go : Con y_SE_go b_SE_go 2 (some .int) 7 0 0 false sp_SE_go := by
  refine Con.of (by decide) (fun av w post h => by obtain ⟨R, room, e, E, a, rfl, -⟩ := h; exact Nat.le_of_ble_eq_true rfl) ?_
  intro X K hnm av w post h hr _
  obtain ⟨R, room, e, E, a, rfl, hw, hok, hp⟩ := h
  exact m_SE_go K hr (by decide) hw (fun z => absurd z hok) (fun _ => hp)
def spT_SE_go_I : List am_V → List am_C → Prop := fun av w => ∃ (R : sp_R) (room e : Nat) (E : sp_E) (a : Int32), av = [aR 0, aI a] ∧ rx R room e E w ∧ (o_go1 a)
theorem cT_SE_go_I : ConT y_SE_go b_SE_go 2 (some .int) 7 ax_I spT_SE_go_I := by
  refine ConT.of (by decide) (fun av w h => by obtain ⟨R, room, e, E, a, rfl, -⟩ := h; exact Nat.le_of_ble_eq_true rfl) ?_
  intro X K av w h hx hr
  obtain ⟨R, room, e, E, a, rfl, hw, hok⟩ := h
  have hdd6 : 6 ≤ 7 := by decide
  exact m_SE_go K hr (by decide) hw (fun _ => fun _ => aw_throw K hx ax_okI (by decide) hdd6 (by omega) (by omega) d_SE_go_12 d_SE_go_15 d_SE_go_16 d_SE_go_18 d_SE_go_21 rfl) (fun z => absurd hok z)
def sp_SE_node : am_S := fun av w post => ∃ (R : sp_R) (room e : Nat) (E : sp_E) (a b : Int32), av = [aR 0, aI a, aI b] ∧ rx R room e E w ∧ (¬ o_node1 R E a b) ∧ (post (some (aI (nI (sp_st (eF E a.toNatClampNeg) b.toNatClampNeg)))) w)
theorem c_SE_node : Con y_SE_node b_SE_node 3 (some .int) 3 0 0 false sp_SE_node := by
  refine Con.of (by decide) (fun av w post h => by obtain ⟨R, room, e, E, a, b, rfl, -⟩ := h; exact Nat.le_of_ble_eq_true rfl) ?_
  intro X K hnm av w post h hr _
  obtain ⟨R, room, e, E, a, b, rfl, hw, hok, hp⟩ := h
  exact m_SE_node K hr (by decide) hw (fun z => absurd z hok) (fun _ => hp)
def spT_SE_node_O : List am_V → List am_C → Prop := fun av w => ∃ (R : sp_R) (room e : Nat) (E : sp_E) (a b : Int32), av = [aR 0, aI a, aI b] ∧ rx R room e E w ∧ (o_node1 R E a b)
theorem cT_SE_node_O : ConT y_SE_node b_SE_node 3 (some .int) 6 ax_O spT_SE_node_O := by
  refine ConT.of (by decide) (fun av w h => by obtain ⟨R, room, e, E, a, b, rfl, -⟩ := h; exact Nat.le_of_ble_eq_true rfl) ?_
  intro X K av w h hx hr
  obtain ⟨R, room, e, E, a, b, rfl, hw, hok⟩ := h
  have hdd6 : 6 ≤ 6 := by decide
  exact m_SE_node K hr (by decide) hw (fun _ => fun _ => aw_throw K hx ax_okO (by decide) hdd6 (by omega) (by omega) d_SE_node_26 d_SE_node_29 d_SE_node_30 d_SE_node_32 d_SE_node_35 rfl) (fun z => absurd hok z)
def sp_SE_code : am_S := fun av w post => ∃ (R : sp_R) (room e : Nat) (E : sp_E) (a b : Int32), av = [aR 0, aI a, aI b] ∧ rx R room e E w ∧ (¬ o_code1 E a b) ∧ (post (some (aI (nI ((sp_cs (eF E a.toNatClampNeg)).getD b.toNatClampNeg 0)))) w)
theorem c_SE_code : Con y_SE_code b_SE_code 3 (some .int) 3 0 0 false sp_SE_code := by
  refine Con.of (by decide) (fun av w post h => by obtain ⟨R, room, e, E, a, b, rfl, -⟩ := h; exact Nat.le_of_ble_eq_true rfl) ?_
  intro X K hnm av w post h hr _
  obtain ⟨R, room, e, E, a, b, rfl, hw, hok, hp⟩ := h
  exact m_SE_code K hr (by decide) hw (fun z => absurd z hok) (fun _ => hp)
def spT_SE_code_O : List am_V → List am_C → Prop := fun av w => ∃ (R : sp_R) (room e : Nat) (E : sp_E) (a b : Int32), av = [aR 0, aI a, aI b] ∧ rx R room e E w ∧ (o_code1 E a b)
theorem cT_SE_code_O : ConT y_SE_code b_SE_code 3 (some .int) 6 ax_O spT_SE_code_O := by
  refine ConT.of (by decide) (fun av w h => by obtain ⟨R, room, e, E, a, b, rfl, -⟩ := h; exact Nat.le_of_ble_eq_true rfl) ?_
  intro X K av w h hx hr
  obtain ⟨R, room, e, E, a, b, rfl, hw, hok⟩ := h
  have hdd6 : 6 ≤ 6 := by decide
  exact m_SE_code K hr (by decide) hw (fun _ => fun _ => aw_throw K hx ax_okO (by decide) hdd6 (by omega) (by omega) d_SE_code_31 d_SE_code_34 d_SE_code_35 d_SE_code_37 d_SE_code_40 rfl) (fun z => absurd hok z)
def sp_SE_whole : am_S := fun av w post => ∃ (R : sp_R) (room e : Nat) (E : sp_E) (a b : Int32), av = [aR 0, aI a, aI b] ∧ rx R room e E w ∧ (¬ o_whole1 E a b) ∧ (post (some (aI (o_wholev E a.toNatClampNeg b))) w)
theorem c_SE_whole : Con y_SE_whole b_SE_whole 3 (some .int) 3 0 0 false sp_SE_whole := by
  refine Con.of (by decide) (fun av w post h => by obtain ⟨R, room, e, E, a, b, rfl, -⟩ := h; exact Nat.le_of_ble_eq_true rfl) ?_
  intro X K hnm av w post h hr _
  obtain ⟨R, room, e, E, a, b, rfl, hw, hok, hp⟩ := h
  exact m_SE_whole K hr (by decide) hw (fun z => absurd z hok) (fun _ => hp)
def spT_SE_whole_O : List am_V → List am_C → Prop := fun av w => ∃ (R : sp_R) (room e : Nat) (E : sp_E) (a b : Int32), av = [aR 0, aI a, aI b] ∧ rx R room e E w ∧ (o_whole1 E a b)
theorem cT_SE_whole_O : ConT y_SE_whole b_SE_whole 3 (some .int) 6 ax_O spT_SE_whole_O := by
  refine ConT.of (by decide) (fun av w h => by obtain ⟨R, room, e, E, a, b, rfl, -⟩ := h; exact Nat.le_of_ble_eq_true rfl) ?_
  intro X K av w h hx hr
  obtain ⟨R, room, e, E, a, b, rfl, hw, hok⟩ := h
  have hdd6 : 6 ≤ 6 := by decide
  exact m_SE_whole K hr (by decide) hw (fun _ => fun _ => ⟨aw_throw K hx ax_okO (by decide) hdd6 (by omega) (by omega) d_SE_whole_11 d_SE_whole_14 d_SE_whole_15 d_SE_whole_17 d_SE_whole_20 rfl, aw_throw K hx ax_okO (by decide) hdd6 (by omega) (by omega) d_SE_whole_123 d_SE_whole_126 d_SE_whole_127 d_SE_whole_129 d_SE_whole_132 rfl⟩) (fun z => absurd hok z)
def sp_SE_wayAt : am_S := fun av w post => ∃ (R : sp_R) (room e : Nat) (E : sp_E) (a : Int32), av = [aR 0, aI a] ∧ rx R room e E w ∧ (¬ o_wayAt1 E a) ∧ (post (some (aI (nI (sp_wy E a.toNatClampNeg (eZ E) (eZ E - 1))))) w)
theorem c_SE_wayAt : Con y_SE_wayAt b_SE_wayAt 2 (some .int) 3 0 0 false sp_SE_wayAt := by
  refine Con.of (by decide) (fun av w post h => by obtain ⟨R, room, e, E, a, rfl, -⟩ := h; exact Nat.le_of_ble_eq_true rfl) ?_
  intro X K hnm av w post h hr _
  obtain ⟨R, room, e, E, a, rfl, hw, hok, hp⟩ := h
  exact m_SE_wayAt K hr (by decide) hw (fun z => absurd z hok) (fun _ => hp)
def spT_SE_wayAt_O : List am_V → List am_C → Prop := fun av w => ∃ (R : sp_R) (room e : Nat) (E : sp_E) (a : Int32), av = [aR 0, aI a] ∧ rx R room e E w ∧ (o_wayAt1 E a)
theorem cT_SE_wayAt_O : ConT y_SE_wayAt b_SE_wayAt 2 (some .int) 6 ax_O spT_SE_wayAt_O := by
  refine ConT.of (by decide) (fun av w h => by obtain ⟨R, room, e, E, a, rfl, -⟩ := h; exact Nat.le_of_ble_eq_true rfl) ?_
  intro X K av w h hx hr
  obtain ⟨R, room, e, E, a, rfl, hw, hok⟩ := h
  have hdd6 : 6 ≤ 6 := by decide
  exact m_SE_wayAt K hr (by decide) hw (fun _ => fun _ => aw_throw K hx ax_okO (by decide) hdd6 (by omega) (by omega) d_SE_wayAt_27 d_SE_wayAt_30 d_SE_wayAt_31 d_SE_wayAt_33 d_SE_wayAt_36 rfl) (fun z => absurd hok z)

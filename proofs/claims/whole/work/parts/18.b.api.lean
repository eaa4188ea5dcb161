/-! ===== CONTRACTS: the class's face ===== -/
theorem if_c {α : Type} {c : Prop} [Decidable c] {x y : α} (P : α → Prop) (h1 : c → P x) (h2 : ¬ c → P y) : P (if c then x else y) := by
  by_cases h : c
  · rw [if_pos h]; exact h1 h
  · rw [if_neg h]; exact h2 h
theorem o_evt {b : Int32} {n : Nat} (hn : n < 100) (h : b = (-1) ∨ o_in b n) : b = nI (b + 1).toNatClampNeg - 1 ∧ (b + 1).toNatClampNeg ≤ n ∧ (b = (-1) ↔ (b + 1).toNatClampNeg = 0) := by
  rcases h with rfl | h
  · have z : ((-1 : Int32) + 1).toNatClampNeg = 0 := by decide
    exact ⟨by decide, by omega, ⟨fun _ => z, fun _ => rfl⟩⟩
  · obtain ⟨e, hl⟩ := o_in_nat (by omega) h
    generalize b.toNatClampNeg = k at e hl
    subst e
    rw [nI_1, nI_clamp (by omega), nI_pred]
    refine ⟨rfl, by omega, fun z => ?_, fun z => by omega⟩
    have h1 := nI_toInt (n := k) (by omega)
    rw [z] at h1
    have h2 : ((-1 : Int32)).toInt = -1 := by decide
    omega
theorem nI_geI {a b : Nat} (ha : a < 2 ^ 31) (hb : b < 2 ^ 31) (z : ¬ nI a < nI b) : b ≤ a := Nat.le_of_not_lt fun q => z ((nI_ltI ha hb).mpr q)
theorem rc_A_to {R R' : sp_R} {bp bp' : Int64} {ms me mt mn mk mw mg : Nat → Int32} (hN : rN R' = rN R) (hU : rU R' = rU R) (hF : rF R' = rF R) (hV : rV R' = rV R) (hT : rT R' = rT R) (hC : rC R' = rC R) (hk : rk R' = rk R) (hW : rW R' = rW R) (hB : mo_B bp' (rB R')) (h : rc_A R bp ms me mt mn mk mw mg) : rc_A R' bp' ms me mt mn mk mw mg := by
  obtain ⟨h1, h2, h3⟩ := h
  refine ⟨fun r hr => ?_, fun r hr => h2 r (by rw [← hU]; exact hr), hB⟩
  rw [hF, hV, hT, hC, hk, hW, gw_congr (R := R) (R' := R') hN _ (fun i _ => by rw [hW])]
  exact h1 r (by rw [← hU]; exact hr)
theorem o_neg1 {k : Nat} (h : k < 2 ^ 31) : nI k ≠ (-1) := by
  intro z
  have h1 := nI_toInt (n := k) h
  rw [z] at h1
  have h2 : ((-1 : Int32)).toInt = -1 := by decide
  omega
set_option maxRecDepth 20000 in
theorem m_SE_state {X : am_X} {dd bc bs : Nat} {post : Option am_V → List am_C → Prop} (K : am_ok X b_SE_state R_SE 1 dd) (hr : am_rt X (some .int) post) (hdd : 3 ≤ dd) {R : sp_R} {room e : Nat} {E : sp_E} {w : List am_C} (hw : rx R room e E w)
    (hT : 8 ≤ rS R → ∀ lv, AW X 12 lv [] w bc bs) (hp : rS R < 8 → ∀ w', rx (rS1 R) room e (o_E0 E) w' → post (some (aI (nI (rS R)))) w') : AW X 0 [some (aR 0)] [] w bc bs := by
  obtain ⟨hR, hE, he⟩ := rx_vs hw
  have hw0 := hw
  obtain ⟨here, uz, us, uc, bp, uf, vf, uy, vz, vy, ms, me, mt, mn, mk, mw, mg, le, og, ru, sp, sy, sa, uo, vs, vc, vo, fo, rfl, -⟩ := hw
  have hb := hR.1
  refine x_SE_state_0 K hr c_Ex_forget (by omega) ⟨fun z => ?_, fun z => ?_⟩
  · have h8 : rS R < 8 := (nI_ltI (b := 8) (by omega) (by decide)).mp z
    refine ⟨R, room, e, E, rfl, rfl, hw0, fun w' hw' => ?_⟩
    obtain ⟨here, uz, us, uc, bp, uf, vf, uy, vz, vy, ms, me, mt, mn, mk, mw, mg, le, og, ru, sp, sy, sa, uo, vs, vc, vo, fo, rfl, hR', hev, hee, hA, hS⟩ := hw'
    refine x_SE_state_29 K hr ?_
    rw [nI_1]
    exact hp h8 _ ⟨here, uz, us, uc, bp, uf, vf, uy, vz, vy, ms, me, mt, mn, mk, mw, mg, le, og, ru, sp, sy, sa, uo, vs, vc, vo, fo, rfl, rv_S1 hR h8, ev_E0 _ _ _ _ _ _ _ _, hee, rc_A_to (R := R) rfl rfl rfl rfl rfl rfl rfl rfl hA.2.2 hA, hS⟩
  · exact hT (nI_geI (b := 8) (by omega) (by decide) z) _
set_option maxRecDepth 20000 in
theorem m_SE_message {X : am_X} {dd bc bs : Nat} {post : Option am_V → List am_C → Prop} (K : am_ok X b_SE_message R_SE 1 dd) (hr : am_rt X (some .int) post) (hdd : 3 ≤ dd) {R : sp_R} {room e : Nat} {E : sp_E} {w : List am_C} (hw : rx R room e E w)
    (hT : 6 ≤ rK R → ∀ lv, AW X 12 lv [] w bc bs) (hp : rK R < 6 → ∀ w', rx (rK1 R) room e (o_E0 E) w' → post (some (aI (nI (rK R)))) w') : AW X 0 [some (aR 0)] [] w bc bs := by
  obtain ⟨hR, hE, he⟩ := rx_vs hw
  have hw0 := hw
  obtain ⟨here, uz, us, uc, bp, uf, vf, uy, vz, vy, ms, me, mt, mn, mk, mw, mg, le, og, ru, sp, sy, sa, uo, vs, vc, vo, fo, rfl, -⟩ := hw
  have hb := hR.1
  refine x_SE_message_0 K hr c_Ex_forget (by omega) ⟨fun z => ?_, fun z => ?_⟩
  · have h8 : rK R < 6 := (nI_ltI (b := 6) (by omega) (by decide)).mp z
    refine ⟨R, room, e, E, rfl, rfl, hw0, fun w' hw' => ?_⟩
    obtain ⟨here, uz, us, uc, bp, uf, vf, uy, vz, vy, ms, me, mt, mn, mk, mw, mg, le, og, ru, sp, sy, sa, uo, vs, vc, vo, fo, rfl, hR', hev, hee, hA, hS⟩ := hw'
    refine x_SE_message_29 K hr ?_
    rw [nI_1]
    exact hp h8 _ ⟨here, uz, us, uc, bp, uf, vf, uy, vz, vy, ms, me, mt, mn, mk, mw, mg, le, og, ru, sp, sy, sa, uo, vs, vc, vo, fo, rfl, rv_K1 hR h8, ev_E0 _ _ _ _ _ _ _ _, hee, rc_A_to (R := R) rfl rfl rfl rfl rfl rfl rfl rfl hA.2.2 hA, hS⟩
  · exact hT (nI_geI (b := 6) (by omega) (by decide) z) _
set_option maxRecDepth 20000 in
set_option maxHeartbeats 1000000 in
theorem m_SE_rule {X : am_X} {dd bc bs : Nat} {post : Option am_V → List am_C → Prop} (K : am_ok X b_SE_rule R_SE 4 dd) (hr : am_rt X (some .int) post) (hdd : 3 ≤ dd) {R : sp_R} {room e : Nat} {E : sp_E} {w : List am_C} {a b c : Int32} (hw : rx R room e E w)
    (hI : o_rule1 R a b c → ∀ lv, AW X 22 lv [] w bc bs ∧ AW X 48 lv [] w bc bs) (hU : ¬ o_rule1 R a b c → 40 ≤ rU R → ∀ lv, AW X 70 lv [] w bc bs) (hp : ¬ o_rule1 R a b c → rU R < 40 → ∀ w', rx (r_rule R a.toNatClampNeg (b + 1).toNatClampNeg c.toNatClampNeg) room e (o_E0 E) w' → post (some (aI (nI (rU R)))) w') : AW X 0 [some (aR 0), some (aI a), some (aI b), some (aI c)] [] w bc bs := by
  obtain ⟨hR, hE, he⟩ := rx_vs hw
  have hw0 := hw
  obtain ⟨here, uz, us, uc, bp, uf, vf, uy, vz, vy, ms, me, mt, mn, mk, mw, mg, le, og, ru, sp, sy, sa, uo, vs, vc, vo, fo, rfl, -⟩ := hw
  have hb := hR.1
  have k58 : ¬ o_rule1 R a b c → AW X 58 [some (aR 0), some (aI a), some (aI b), some (aI c)] [] [oC 0 [aR 1, aR 9, aR 17], cMo (nI (rN R)) (nI (rS R)) (nI (rK R)) (nI (rU R)) bp, iC 40 ms, iC 40 me, iC 40 mt, iC 40 mn, iC 160 mk, iC 160 mw, iC 40 mg, cSt (nI (eZ E)), jC room fo, iC room le, iC room og, iC room ru, iC room sp, iC room sy, iC (2 ^ e) sa, cEx (rc_en (eN E)) (nI (eG E)) (nI (eT E)) (nI (eO E)) (nI (eK E)) (nI (rc_sd (sp_fc (rN R)) (eY E) (eZ E))) (nI here), cDu (nI (rN R)) (nI (sp_fc (rN R))) uz uf uy, iC 4 us, iC 7 uc, iC 7 uo, cDv (nI (rN R)) (nI (sp_fc (rN R))) vz vf vy, iC 4 vs, iC 7 vc, iC 7 vo] bc bs := by
    intro hno
    have h1 : o_in a (rS R) := Decidable.byContradiction fun z => hno (Or.inl z)
    have h2 : o_in c (rS R) := Decidable.byContradiction fun z => hno (Or.inr (Or.inl z))
    have h3 : b = (-1) ∨ o_in b (rK R) := by
      by_cases q : b = (-1)
      · exact Or.inl q
      · exact Or.inr (Decidable.byContradiction fun z => hno (Or.inr (Or.inr ⟨q, z⟩)))
    obtain ⟨e1, l1⟩ := o_in_nat (by omega) h1
    obtain ⟨e2, l2⟩ := o_in_nat (by omega) h2
    obtain ⟨e3, l3, e4⟩ := o_evt (by omega) h3
    refine x_SE_rule_58 K hr c_Ex_forget (by omega) ⟨fun z => ?_, fun z => ?_⟩
    · have h40 : rU R < 40 := (nI_ltI (b := 40) (by omega) (by decide)).mp z
      refine ⟨R, room, e, E, rfl, rfl, hw0, fun w' hw' => ?_⟩
      obtain ⟨here, uz, us, uc, bp, uf, vf, uy, vz, vy, ms, me, mt, mn, mk, mw, mg, le, og, ru, sp, sy, sa, uo, vs, vc, vo, fo, rfl, hR', hev, hee, hA, hS⟩ := hw'
      refine x_SE_rule_87 K hr c_Mo_addRule (by omega) ?_
      refine ⟨rU R, a, b, c, _, _, _, bp, ms, me, mt, mg, rfl, rfl, rfl, rfl, rfl, rfl, rfl, h40, ?_⟩
      refine x_SE_rule_97 K hr ?_
      obtain ⟨hA1, hA2, hA3⟩ := hA
      refine hp hno h40 _ ⟨here, uz, us, uc, bp, uf, vf, uy, vz, vy, upd ms (rU R) a, upd me (rU R) b, upd mt (rU R) c, mn, mk, mw, upd mg (rU R) (if b = (-1) then 0 else (-1)), le, og, ru, sp, sy, sa, uo, vs, vc, vo, fo, rfl, rv_rule hR h40 l1 l3 l2, ev_E0 _ _ _ _ _ _ _ _, hee, ⟨fun r hr9 => ?_, fun r hr9 h4 => hA2 r (by have : rU R + 1 ≤ r := hr9; omega) h4, hA3⟩, hS⟩
      have hr9' : r < rU R + 1 := hr9
      show upd ms (rU R) a r = nI (upN (rF R) (rU R) a.toNatClampNeg r) ∧ upd me (rU R) b r = nI (upN (rV R) (rU R) (b + 1).toNatClampNeg r) - 1 ∧ upd mt (rU R) c r = nI (upN (rT R) (rU R) c.toNatClampNeg r) ∧ mn r = nI (upN (rC R) (rU R) 0 r) ∧ upd mg (rU R) (if b = (-1) then 0 else (-1)) r = nI (sp_gw (r_rule R a.toNatClampNeg (b + 1).toNatClampNeg c.toNatClampNeg) r (upN (rC R) (rU R) 0 r)) + (if upN (rV R) (rU R) (b + 1).toNatClampNeg r = 0 then 0 else (-1)) ∧ ∀ i, i < upN (rC R) (rU R) 0 r → mk (4 * r + i) = nI (rk R (4 * r + i)) ∧ mw (4 * r + i) = nI (rW R (4 * r + i))
      by_cases er : r = rU R
      · rw [er, upN_s, upN_s, upN_s, upN_s, pk_us, pk_us, pk_us, pk_us]
        refine ⟨e1, e3, e2, hA2 _ (Nat.le_refl _) h40, ?_, fun i hi => by omega⟩
        have e0 : nI (sp_gw (r_rule R a.toNatClampNeg (b + 1).toNatClampNeg c.toNatClampNeg) (rU R) 0) = 0 := rfl
        rw [e0]
        by_cases q : b = (-1)
        · rw [if_pos q, if_pos (e4.mp q)]; rfl
        · rw [if_neg q, if_neg (fun z => q (e4.mpr z))]; rfl
      · rw [upN_n _ _ er, upN_n _ _ er, upN_n _ _ er, upN_n _ _ er, pk_un er, pk_un er, pk_un er, pk_un er]
        have hg : sp_gw (r_rule R a.toNatClampNeg (b + 1).toNatClampNeg c.toNatClampNeg) r (rC R r) = sp_gw R r (rC R r) := gw_congr (R := R) (R' := r_rule R a.toNatClampNeg (b + 1).toNatClampNeg c.toNatClampNeg) rfl _ (fun _ _ => rfl)
        rw [hg]
        exact hA1 r (by omega)
    · exact hU hno (nI_geI (b := 40) (by omega) (by decide) z) _
  refine x_SE_rule_0 K hr c_Mo_hasState (by omega) ?_
  refine ⟨a, _, _, _, _, bp, rfl, rfl, rfl, ?_⟩
  by_cases h1 : o_in a (rS R)
  · rw [if_pos (show 0 ≤ a ∧ a < nI (rS R) from h1)]
    refine x_SE_rule_8 K hr c_Mo_hasState (by omega) ⟨fun z => absurd z (by decide), fun _ => ?_⟩
    refine ⟨c, _, _, _, _, bp, rfl, rfl, rfl, ?_⟩
    by_cases h2 : o_in c (rS R)
    · rw [if_pos (show 0 ≤ c ∧ c < nI (rS R) from h2)]
      refine x_SE_rule_19 K hr c_Mo_hasKind (by omega) ⟨fun _ => ⟨fun z => ?_, fun z => ?_⟩, fun z => absurd z (by decide)⟩
      · exact k58 (fun q => by rcases q with q | q | ⟨q, -⟩; exact q h1; exact q h2; exact q z)
      · refine ⟨b, _, _, _, _, bp, rfl, rfl, rfl, ?_⟩
        by_cases h3 : o_in b (rK R)
        · rw [if_pos (show 0 ≤ b ∧ b < nI (rK R) from h3)]
          refine x_SE_rule_45 K hr ⟨fun _ => ?_, fun z => absurd z (by decide)⟩
          exact k58 (fun q => by rcases q with q | q | ⟨-, q⟩; exact q h1; exact q h2; exact q h3)
        · rw [if_neg (show ¬ (0 ≤ b ∧ b < nI (rK R)) from h3)]
          exact x_SE_rule_45 K hr ⟨fun q => absurd rfl q, fun _ => (hI (Or.inr (Or.inr ⟨z, h3⟩)) _).2⟩
    · rw [if_neg (show ¬ (0 ≤ c ∧ c < nI (rS R)) from h2)]
      exact x_SE_rule_19 K hr c_Mo_hasKind (by omega) ⟨fun q => absurd rfl q, fun _ => (hI (Or.inr (Or.inl h2)) _).1⟩
  · rw [if_neg (show ¬ (0 ≤ a ∧ a < nI (rS R)) from h1)]
    exact x_SE_rule_8 K hr c_Mo_hasState (by omega) ⟨fun _ => (hI (Or.inl h1) _).1, fun q => absurd rfl q⟩
theorem o_two {t : Int32} : o_in t 2 ↔ (t = 0 ∨ t = 1) := by
  constructor
  · intro h
    obtain ⟨e, hl⟩ := o_in_nat (by decide) h
    rcases (show t.toNatClampNeg = 0 ∨ t.toNatClampNeg = 1 by omega) with q | q
    · left; rw [e, q]; rfl
    · right; rw [e, q]; rfl
  · rintro (rfl | rfl)
    · exact ⟨by decide, by decide⟩
    · exact ⟨by decide, by decide⟩
set_option maxRecDepth 20000 in
set_option maxHeartbeats 1000000 in
theorem m_SE_sends {X : am_X} {dd bc bs : Nat} {post : Option am_V → List am_C → Prop} (K : am_ok X b_SE_sends R_SE 4 dd) (hr : am_rt X (some .int) post) (hdd : 3 ≤ dd) {R : sp_R} {room e : Nat} {E : sp_E} {w : List am_C} {a b c : Int32} (hw : rx R room e E w)
    (hI : o_sends1 R a b c → ∀ lv, AW X 15 lv [] w bc bs ∧ AW X 36 lv [] w bc bs ∧ AW X 55 lv [] w bc bs ∧ AW X 82 lv [] w bc bs) (hU : ¬ o_sends1 R a b c → 4 ≤ rC R a.toNatClampNeg → ∀ lv, AW X 105 lv [] w bc bs) (hp : ¬ o_sends1 R a b c → rC R a.toNatClampNeg < 4 → ∀ w', rx (r_send R a.toNatClampNeg b.toNatClampNeg c.toNatClampNeg) room e (o_E0 E) w' → post (some (aI (nI (rC R a.toNatClampNeg + 1)))) w') : AW X 0 [some (aR 0), some (aI a), some (aI b), some (aI c)] [] w bc bs := by
  obtain ⟨hR, hE, he⟩ := rx_vs hw
  have hw0 := hw
  obtain ⟨here, uz, us, uc, bp, uf, vf, uy, vz, vy, ms, me, mt, mn, mk, mw, mg, le, og, ru, sp, sy, sa, uo, vs, vc, vo, fo, rfl, -, -, -, hA, -⟩ := hw
  have hb := hR.1
  obtain ⟨hA1, hA2, hA3⟩ := hA
  by_cases h1 : o_in a (rU R)
  · obtain ⟨e1, l1⟩ := o_in_nat (by omega) h1
    obtain ⟨r, hr1⟩ : ∃ r, r = a.toNatClampNeg := ⟨_, rfl⟩
    have hin : vp_in a 40 := by rw [e1]; exact vp_in_nI (by omega) (by decide)
    obtain ⟨a1, a2, a3, a4, a5, a6⟩ := hA1 _ l1
    obtain ⟨b1, b2, b3, b4, b5⟩ := hR.2.1 _ l1
    have hev : me a.toNatClampNeg = (-1) ↔ rV R a.toNatClampNeg = 0 := by rw [a2]; exact nI_m1 (by omega)
    have k92 : ¬ o_sends1 R a b c → AW X 92 [some (aR 0), some (aI a), some (aI b), some (aI c)] [] [oC 0 [aR 1, aR 9, aR 17], cMo (nI (rN R)) (nI (rS R)) (nI (rK R)) (nI (rU R)) bp, iC 40 ms, iC 40 me, iC 40 mt, iC 40 mn, iC 160 mk, iC 160 mw, iC 40 mg, cSt (nI (eZ E)), jC room fo, iC room le, iC room og, iC room ru, iC room sp, iC room sy, iC (2 ^ e) sa, cEx (rc_en (eN E)) (nI (eG E)) (nI (eT E)) (nI (eO E)) (nI (eK E)) (nI (rc_sd (sp_fc (rN R)) (eY E) (eZ E))) (nI here), cDu (nI (rN R)) (nI (sp_fc (rN R))) uz uf uy, iC 4 us, iC 7 uc, iC 7 uo, cDv (nI (rN R)) (nI (sp_fc (rN R))) vz vf vy, iC 4 vs, iC 7 vc, iC 7 vo] bc bs := by
      intro hno
      have h2 : o_in b (rK R) := Decidable.byContradiction fun z => hno (Or.inr (Or.inl z))
      have h3 : o_in c 2 := Decidable.byContradiction fun z => hno (Or.inr (Or.inr (Or.inl z)))
      obtain ⟨e2, l2⟩ := o_in_nat (by omega) h2
      obtain ⟨e3, l3⟩ := o_in_nat (by decide) h3
      have h5 : c.toNatClampNeg = 0 → rV R a.toNatClampNeg ≠ 0 := fun z1 z2 => hno (Or.inr (Or.inr (Or.inr ⟨by rw [e3, z1]; rfl, z2⟩)))
      refine x_SE_sends_92 K hr c_Ex_forget (by omega) ⟨hin, fun z => ?_, fun z => ?_⟩
      · rw [a4] at z
        have h4 : rC R a.toNatClampNeg < 4 := (nI_ltI (b := 4) (by omega) (by decide)).mp z
        refine ⟨R, room, e, E, rfl, rfl, hw0, fun w' hw' => ?_⟩
        obtain ⟨here, uz, us, uc, bp, uf, vf, uy, vz, vy, ms, me, mt, mn, mk, mw, mg, le, og, ru, sp, sy, sa, uo, vs, vc, vo, fo, rfl, hR', hev', hee, hA', hS⟩ := hw'
        obtain ⟨hA1, hA2, hA3⟩ := hA'
        obtain ⟨a1, a2, a3, a4, a5, a6⟩ := hA1 _ l1
        refine x_SE_sends_122 K hr c_Mo_addSend (by omega) ?_
        refine ⟨a.toNatClampNeg, rC R a.toNatClampNeg, b, c, _, _, _, _, bp, mn, mk, mw, mg, by rw [← e1], rfl, rfl, rfl, rfl, rfl, rfl, by omega, h4, a4, ?_⟩
        refine x_SE_sends_132 K hr ?_
        rw [← hr1] at hp l1 b1 b2 b3 b4 b5 h4 h5 ⊢
        refine hp hno h4 _ ⟨here, uz, us, uc, bp, uf, vf, uy, vz, vy, ms, me, mt, upd mn r (nI (rC R r + 1)), upd mk (4 * r + rC R r) b, upd mw (4 * r + rC R r) c, upd mg r (mg r + (if c = 0 then 1 else nI (rN R) - 1)), le, og, ru, sp, sy, sa, uo, vs, vc, vo, fo, rfl, rv_send hR l1 l2 l3 h4 h5, ev_E0 _ _ _ _ _ _ _ _, hee, ⟨fun q hq => ?_, fun q hq h4 => ?_, hA3⟩, hS⟩
        · have hq' : q < rU R := hq
          obtain ⟨c1, c2, c3, c4, c5, c6⟩ := hA1 q hq'
          refine ⟨c1, c2, c3, ?_, ?_, fun i hi => ?_⟩
          · show upd mn r (nI (rC R r + 1)) q = nI (upN (rC R) r (rC R r + 1) q)
            by_cases er : q = r
            · rw [er, pk_us, upN_s]
            · rw [pk_un er, upN_n _ _ er]; exact c4
          · show upd mg r (mg r + (if c = 0 then 1 else nI (rN R) - 1)) q = nI (sp_gw (r_send R r b.toNatClampNeg c.toNatClampNeg) q (upN (rC R) r (rC R r + 1) q)) + (if rV R q = 0 then 0 else (-1))
            by_cases er : q = r
            · rw [er, pk_us, upN_s]
              rw [er] at c5
              have eg : sp_gw (r_send R r b.toNatClampNeg c.toNatClampNeg) r (rC R r + 1) = sp_gw R r (rC R r) + (if c.toNatClampNeg = 0 then 1 else rN R - 1) := by
                show sp_gw (r_send R r b.toNatClampNeg c.toNatClampNeg) r (rC R r) + (if upN (rW R) (4 * r + rC R r) c.toNatClampNeg (4 * r + rC R r) = 0 then 1 else rN R - 1) = _
                rw [upN_s, gw_congr (R := R) (R' := r_send R r b.toNatClampNeg c.toNatClampNeg) rfl (rC R r) (fun i hi => upN_n _ _ (by omega))]
              rw [eg, c5, ← nI_add]
              have ec : (if c = 0 then (1 : Int32) else nI (rN R) - 1) = nI (if c.toNatClampNeg = 0 then 1 else rN R - 1) := by
                by_cases q0 : c = 0
                · rw [if_pos q0, if_pos (by rw [q0]; rfl)]; rfl
                · rw [if_neg q0, if_neg (fun z => q0 (by rw [e3, z]; rfl))]
                  obtain ⟨N, hN⟩ : ∃ N, rN R = N + 1 := ⟨rN R - 1, by omega⟩
                  rw [hN, nI_pred, Nat.add_sub_cancel]
              rw [ec]
              rw [Int32.add_assoc, Int32.add_assoc]
              congr 1
              exact Int32.add_comm _ _
            · rw [pk_un er, upN_n _ _ er, c5, gw_congr (R := R) (R' := r_send R r b.toNatClampNeg c.toNatClampNeg) rfl (rC R q) (fun i hi => upN_n _ _ (by have := (hR.2.1 q hq').2.2.2.1; omega))]
          · have hi' : i < upN (rC R) r (rC R r + 1) q := hi
            show upd mk (4 * r + rC R r) b (4 * q + i) = nI (upN (rk R) (4 * r + rC R r) b.toNatClampNeg (4 * q + i)) ∧ upd mw (4 * r + rC R r) c (4 * q + i) = nI (upN (rW R) (4 * r + rC R r) c.toNatClampNeg (4 * q + i))
            by_cases er : q = r
            · rw [er] at hi' c6 ⊢
              rw [upN_s] at hi'
              by_cases ei : i = rC R r
              · rw [ei, pk_us, pk_us, upN_s, upN_s]; exact ⟨e2, e3⟩
              · rw [pk_un (by omega), pk_un (by omega), upN_n _ _ (by omega), upN_n _ _ (by omega)]
                exact c6 i (by omega)
            · rw [upN_n _ _ er] at hi'
              have := (hR.2.1 q hq').2.2.2.1
              rw [pk_un (by omega), pk_un (by omega), upN_n _ _ (by omega), upN_n _ _ (by omega)]
              exact c6 i hi'
        · have hq' : rU R ≤ q := hq
          rw [pk_un (by omega)]
          exact hA2 q hq' h4
      · rw [a4] at z
        exact hU hno (nI_geI (b := 4) (by omega) (by decide) z) _
    have k65 : o_in b (rK R) → o_in c 2 → AW X 65 [some (aR 0), some (aI a), some (aI b), some (aI c)] [] [oC 0 [aR 1, aR 9, aR 17], cMo (nI (rN R)) (nI (rS R)) (nI (rK R)) (nI (rU R)) bp, iC 40 ms, iC 40 me, iC 40 mt, iC 40 mn, iC 160 mk, iC 160 mw, iC 40 mg, cSt (nI (eZ E)), jC room fo, iC room le, iC room og, iC room ru, iC room sp, iC room sy, iC (2 ^ e) sa, cEx (rc_en (eN E)) (nI (eG E)) (nI (eT E)) (nI (eO E)) (nI (eK E)) (nI (rc_sd (sp_fc (rN R)) (eY E) (eZ E))) (nI here), cDu (nI (rN R)) (nI (sp_fc (rN R))) uz uf uy, iC 4 us, iC 7 uc, iC 7 uo, cDv (nI (rN R)) (nI (sp_fc (rN R))) vz vf vy, iC 4 vs, iC 7 vc, iC 7 vo] bc bs := by
      intro h2 h3
      refine x_SE_sends_65 K hr ⟨fun z => ?_, fun z => ⟨hin, fun z2 => ?_, fun z2 => ?_⟩⟩
      · exact k92 (fun q => by rcases q with q | q | q | ⟨q, -⟩; exact q h1; exact q h2; exact q h3; exact z q)
      · exact k92 (fun q => by rcases q with q | q | q | ⟨-, q⟩; exact q h1; exact q h2; exact q h3; exact z2 (hev.mpr q))
      · exact (hI (Or.inr (Or.inr (Or.inr ⟨z, hev.mp z2⟩))) _).2.2.2
    refine x_SE_sends_0 K hr c_Mo_hasKind (by omega) ⟨fun z => absurd h1.1 (Int32.not_le.mpr z), fun _ => ⟨fun _ => ?_, fun z => absurd h1.2 z⟩⟩
    refine ⟨b, _, _, _, _, bp, rfl, rfl, rfl, ?_⟩
    by_cases h2 : o_in b (rK R)
    · rw [if_pos (show 0 ≤ b ∧ b < nI (rK R) from h2)]
      refine x_SE_sends_33 K hr ⟨fun _ => ⟨fun z => ?_, fun z => ⟨fun z2 => ?_, fun z2 => ?_⟩⟩, fun z => absurd z (by decide)⟩
      · exact k65 h2 (o_two.mpr (Or.inl z))
      · exact k65 h2 (o_two.mpr (Or.inr z2))
      · exact (hI (Or.inr (Or.inr (Or.inl (fun q => by rcases o_two.mp q with q | q; exact z q; exact z2 q)))) _).2.2.1
    · rw [if_neg (show ¬ (0 ≤ b ∧ b < nI (rK R)) from h2)]
      exact x_SE_sends_33 K hr ⟨fun q => absurd rfl q, fun _ => (hI (Or.inr (Or.inl h2)) _).2.1⟩
  · refine x_SE_sends_0 K hr c_Mo_hasKind (by omega) ⟨fun _ => (hI (Or.inl h1) _).1, fun z => ⟨fun z2 => absurd ⟨Int32.not_lt.mp z, z2⟩ h1, fun _ => (hI (Or.inl h1) _).1⟩⟩
set_option maxRecDepth 20000 in
theorem m_SE_bad {X : am_X} {dd bc bs : Nat} {post : Option am_V → List am_C → Prop} (K : am_ok X b_SE_bad R_SE 3 dd) (hr : am_rt X (some .boolean) post) (hdd : 3 ≤ dd) {R : sp_R} {room e : Nat} {E : sp_E} {w : List am_C} {a b : Int32} (hw : rx R room e E w)
    (hI : o_bad1 R a b → ∀ lv, AW X 22 lv [] w bc bs) (hp0 : ¬ o_bad1 R a b → rB R a.toNatClampNeg b.toNatClampNeg = true → post (some (aI 0)) w) (hp : ¬ o_bad1 R a b → ¬ rB R a.toNatClampNeg b.toNatClampNeg = true → ∀ w', rx (r_bad R a.toNatClampNeg b.toNatClampNeg) room e (o_E0 E) w' → post (some (aI 1)) w') : AW X 0 [some (aR 0), some (aI a), some (aI b)] [] w bc bs := by
  obtain ⟨hR, hE, he⟩ := rx_vs hw
  have hw0 := hw
  obtain ⟨here, uz, us, uc, bp, uf, vf, uy, vz, vy, ms, me, mt, mn, mk, mw, mg, le, og, ru, sp, sy, sa, uo, vs, vc, vo, fo, rfl, -, -, -, hA, -⟩ := hw
  have hb := hR.1
  refine x_SE_bad_0 K hr c_Mo_hasState (by omega) ?_
  refine ⟨a, _, _, _, _, bp, rfl, rfl, rfl, ?_⟩
  by_cases h1 : o_in a (rS R)
  · rw [if_pos (show 0 ≤ a ∧ a < nI (rS R) from h1)]
    refine x_SE_bad_8 K hr c_Mo_hasState (by omega) ⟨fun z => absurd z (by decide), fun _ => ?_⟩
    refine ⟨b, _, _, _, _, bp, rfl, rfl, rfl, ?_⟩
    by_cases h2 : o_in b (rS R)
    · rw [if_pos (show 0 ≤ b ∧ b < nI (rS R) from h2)]
      have hno : ¬ o_bad1 R a b := fun q => by rcases q with q | q; exact q h1; exact q h2
      replace hp0 := hp0 hno
      replace hp := hp hno
      obtain ⟨e1, l1⟩ := o_in_nat (by omega) h1
      obtain ⟨e2, l2⟩ := o_in_nat (by omega) h2
      generalize a.toNatClampNeg = a' at hp hp0 e1 l1
      generalize b.toNatClampNeg = b' at hp hp0 e2 l2
      subst e1
      subst e2
      refine x_SE_bad_19 K hr c_Mo_isBadPair (by omega) ⟨fun _ => ?_, fun z => absurd z (by decide)⟩
      refine ⟨a', b', _, _, _, _, bp, rB R, rfl, rfl, rfl, by omega, by omega, hA.2.2, ?_⟩
      cases hB : rB R a' b' with
      | true => exact x_SE_bad_41 K hr c_Ex_forget (by omega) ⟨fun z => absurd z (by decide), fun _ => hp0 hB⟩
      | false =>
        refine x_SE_bad_41 K hr c_Ex_forget (by omega) ⟨fun _ => ?_, fun z => absurd rfl z⟩
        refine ⟨R, room, e, E, rfl, rfl, hw0, fun w' hw' => ?_⟩
        obtain ⟨here, uz, us, uc, bp, uf, vf, uy, vz, vy, ms, me, mt, mn, mk, mw, mg, le, og, ru, sp, sy, sa, uo, vs, vc, vo, fo, rfl, hR', hev', hee, hA', hS⟩ := hw'
        refine x_SE_bad_53 K hr c_Mo_addBadPair (by omega) ?_
        refine ⟨a', b', _, _, _, _, bp, rB R, rfl, rfl, rfl, by omega, by omega, hA'.2.2, fun bp' hbp => ?_⟩
        refine x_SE_bad_62 K hr ?_
        exact hp (by rw [hB]; decide) _ ⟨here, uz, us, uc, bp', uf, vf, uy, vz, vy, ms, me, mt, mn, mk, mw, mg, le, og, ru, sp, sy, sa, uo, vs, vc, vo, fo, rfl, rv_bad hR, ev_E0 _ _ _ _ _ _ _ _, hee, rc_A_to (R := R) rfl rfl rfl rfl rfl rfl rfl rfl hbp hA', hS⟩
    · rw [if_neg (show ¬ (0 ≤ b ∧ b < nI (rS R)) from h2)]
      exact x_SE_bad_19 K hr c_Mo_isBadPair (by omega) ⟨fun q => absurd rfl q, fun _ => hI (Or.inr h2) _⟩
  · rw [if_neg (show ¬ (0 ≤ a ∧ a < nI (rS R)) from h1)]
    exact x_SE_bad_8 K hr c_Mo_hasState (by omega) ⟨fun _ => hI (Or.inl h1) _, fun q => absurd rfl q⟩
set_option maxRecDepth 20000 in
theorem m_SE_go {X : am_X} {dd bc bs : Nat} {post : Option am_V → List am_C → Prop} (K : am_ok X b_SE_go R_SE 2 dd) (hr : am_rt X (some .int) post) (hdd : 7 ≤ dd) {R : sp_R} {room e : Nat} {E : sp_E} {w : List am_C} {a : Int32} (hw : rx R room e E w)
    (hI : o_go1 a → ∀ lv, AW X 12 lv [] w bc bs) (hp : ¬ o_go1 a → ∀ w', rx R room e (sp_on R room a.toNatClampNeg (sp_bg R E)) w' → post (some (aI (nI (eZ (sp_on R room a.toNatClampNeg (sp_bg R E)))))) w') : AW X 0 [some (aR 0), some (aI a)] [] w bc bs := by
  have hw0 := hw
  obtain ⟨here, uz, us, uc, bp, uf, vf, uy, vz, vy, ms, me, mt, mn, mk, mw, mg, le, og, ru, sp, sy, sa, uo, vs, vc, vo, fo, rfl, -⟩ := hw
  refine x_SE_go_0 K hr c_Ex_goOn (by omega) ⟨fun z => hI (Or.inl z) _, fun z => ⟨fun z2 => ?_, fun z2 => hI (Or.inr (Int32.not_le.mp z2)) _⟩⟩
  have hno : ¬ o_go1 a := fun q => by
    rcases q with q | q
    · exact z q
    · exact absurd z2 (Int32.not_le.mpr q)
  replace hp := hp hno
  have h0 : o_in a 1001 := by
    have z3 := Int32.not_lt.mp z
    refine ⟨?_, ?_⟩
    · have h1 := Int32.le_iff_toInt_le.mp z3
      have e1 : (1 : Int32).toInt = 1 := by decide
      refine Int32.le_iff_toInt_le.mpr ?_
      have e0 : (0 : Int32).toInt = 0 := by decide
      omega
    · have h1 := Int32.le_iff_toInt_le.mp z2
      have e1 : (1000 : Int32).toInt = 1000 := by decide
      refine Int32.lt_iff_toInt_lt.mpr ?_
      have e2 : (nI 1001).toInt = 1001 := nI_toInt (n := 1001) (by decide)
      omega
  obtain ⟨e1, l1⟩ := o_in_nat (by decide) h0
  generalize a.toNatClampNeg = a' at hp e1 l1
  subst e1
  refine ⟨R, room, e, a', E, rfl, rfl, hw0, by omega, fun w' hw' => ?_⟩
  have h9 := hp _ hw'
  obtain ⟨here, uz, us, uc, bp, uf, vf, uy, vz, vy, ms, me, mt, mn, mk, mw, mg, le, og, ru, sp, sy, sa, uo, vs, vc, vo, fo, rfl, -⟩ := hw'
  exact x_SE_go_30 K hr h9
set_option maxRecDepth 20000 in
theorem m_SE_node {X : am_X} {dd bc bs : Nat} {post : Option am_V → List am_C → Prop} (K : am_ok X b_SE_node R_SE 3 dd) (hr : am_rt X (some .int) post) (hdd : 3 ≤ dd) {R : sp_R} {room e : Nat} {E : sp_E} {w : List am_C} {a b : Int32} (hw : rx R room e E w)
    (hI : o_node1 R E a b → ∀ lv, AW X 26 lv [] w bc bs) (hp : ¬ o_node1 R E a b → post (some (aI (nI (sp_st (eF E a.toNatClampNeg) b.toNatClampNeg)))) w) : AW X 0 [some (aR 0), some (aI a), some (aI b)] [] w bc bs := by
  obtain ⟨hR, hE, he⟩ := rx_vs hw
  obtain ⟨here, uz, us, uc, bp, uf, vf, uy, vz, vy, ms, me, mt, mn, mk, mw, mg, le, og, ru, sp, sy, sa, uo, vs, vc, vo, fo, rfl, -, -, -, -, hS⟩ := hw
  have hb := hR.1
  have hz := hE.1.1
  have he2 := he.2.1
  refine x_SE_node_0 K hr c_St_has (by omega) ?_
  refine ⟨a, _, rfl, rfl, rfl, ?_⟩
  by_cases h1 : o_in a (eZ E)
  · rw [if_pos (show 0 ≤ a ∧ a < nI (eZ E) from h1)]
    refine x_SE_node_8 K hr c_SE_stateIn (by omega) ⟨fun z => absurd z (by decide), fun _ => ⟨fun z => hI (Or.inr (fun q => absurd q.1 (Int32.not_le.mpr z))) _, fun z => ⟨fun z2 => ?_, fun z2 => hI (Or.inr (fun q => z2 q.2)) _⟩⟩⟩
    have h2 : o_in b (rN R) := ⟨Int32.not_lt.mp z, z2⟩
    replace hp := hp (fun q => by rcases q with q | q; exact q h1; exact q h2)
    obtain ⟨e1, l1⟩ := o_in_nat (by omega) h1
    obtain ⟨e2, l2⟩ := o_in_nat (by omega) h2
    generalize b.toNatClampNeg = b' at hp e2 l2
    subst e2
    refine ⟨by rw [e1]; exact vp_in_nI (by omega) (by omega), ?_⟩
    rw [(hS.1 _ l1).1]
    refine ⟨eF E a.toNatClampNeg, b', rfl, rfl, by have := (hE.2.1 _ l1).1.1; omega, by omega, ?_⟩
    exact x_SE_node_49 K hr hp
  · rw [if_neg (show ¬ (0 ≤ a ∧ a < nI (eZ E)) from h1)]
    exact x_SE_node_8 K hr c_SE_stateIn (by omega) ⟨fun _ => hI (Or.inl h1) _, fun q => absurd rfl q⟩
theorem cs_getD {f j : Nat} (h : j < sp_n f) : (sp_cs f).getD j 0 = sp_co f j - 1 := by
  unfold sp_cs
  simp [List.getD, h]
theorem go_pos (k : Nat) : ∀ (f j : Nat), ∀ i, j ≤ i → i < sp_go k f j → sp_co k i ≠ 0 := by
  intro f
  induction f with
  | zero => intro j i h1 h2; have : sp_go k 0 j = j := rfl; omega
  | succ f ih =>
    intro j i h1 h2
    have e : sp_go k (f + 1) j = if sp_co k j = 0 then j else sp_go k f (j + 1) := rfl
    rw [e] at h2
    by_cases q : sp_co k j = 0
    · rw [if_pos q] at h2; omega
    · rw [if_neg q] at h2
      by_cases e1 : i = j
      · rw [e1]; exact q
      · exact ih (j + 1) i (by omega) h2
theorem n_pos {f j : Nat} (h : j < sp_n f) : sp_co f j ≠ 0 := go_pos f 7 0 j (Nat.zero_le _) h
set_option maxRecDepth 20000 in
theorem m_SE_code {X : am_X} {dd bc bs : Nat} {post : Option am_V → List am_C → Prop} (K : am_ok X b_SE_code R_SE 3 dd) (hr : am_rt X (some .int) post) (hdd : 3 ≤ dd) {R : sp_R} {room e : Nat} {E : sp_E} {w : List am_C} {a b : Int32} (hw : rx R room e E w)
    (hI : o_code1 E a b → ∀ lv, AW X 31 lv [] w bc bs) (hp : ¬ o_code1 E a b → post (some (aI (nI ((sp_cs (eF E a.toNatClampNeg)).getD b.toNatClampNeg 0)))) w) : AW X 0 [some (aR 0), some (aI a), some (aI b)] [] w bc bs := by
  obtain ⟨hR, hE, he⟩ := rx_vs hw
  obtain ⟨here, uz, us, uc, bp, uf, vf, uy, vz, vy, ms, me, mt, mn, mk, mw, mg, le, og, ru, sp, sy, sa, uo, vs, vc, vo, fo, rfl, -, -, -, -, hS⟩ := hw
  have hz := hE.1.1
  have he2 := he.2.1
  refine x_SE_code_0 K hr c_St_has (by omega) ?_
  refine ⟨a, _, rfl, rfl, rfl, ?_⟩
  by_cases h1 : o_in a (eZ E)
  · rw [if_pos (show 0 ≤ a ∧ a < nI (eZ E) from h1)]
    obtain ⟨e1, l1⟩ := o_in_nat (by omega) h1
    have hin : vp_in a room := by rw [e1]; exact vp_in_nI (by omega) (by omega)
    have hf : eF E a.toNatClampNeg < 2 ^ 63 := by have := (hE.2.1 _ l1).1.1; omega
    have hn7 := sp_n_le (eF E a.toNatClampNeg)
    refine x_SE_code_8 K hr c_SE_codesIn (by omega) ⟨fun z => absurd z (by decide), fun _ => ⟨fun z => hI (Or.inr (fun q => absurd q.1 (Int32.not_le.mpr z))) _, fun z => ⟨hin, ?_⟩⟩⟩
    rw [(hS.1 _ l1).1]
    refine ⟨eF E a.toNatClampNeg, rfl, rfl, hf, ?_⟩
    refine x_SE_code_28 K hr c_SE_codeIn (by omega) ⟨fun z2 => ⟨hin, ?_⟩, fun z2 => hI (Or.inr (fun q => z2 q.2)) _⟩
    have h2 : o_in b (sp_n (eF E a.toNatClampNeg)) := ⟨Int32.not_lt.mp z, z2⟩
    replace hp := hp (fun q => by rcases q with q | q; exact q h1; exact q h2)
    obtain ⟨e2, l2⟩ := o_in_nat (by omega) h2
    generalize b.toNatClampNeg = b' at hp e2 l2
    subst e2
    rw [(hS.1 _ l1).1]
    refine ⟨eF E a.toNatClampNeg, b', rfl, rfl, hf, by omega, ?_⟩
    have hc := n_pos l2
    obtain ⟨q, hq⟩ : ∃ q, sp_co (eF E a.toNatClampNeg) b' = q + 1 := ⟨sp_co (eF E a.toNatClampNeg) b' - 1, by omega⟩
    rw [cs_getD l2, hq, Nat.add_sub_cancel] at hp
    rw [hq, nI_pred]
    exact x_SE_code_54 K hr hp
  · rw [if_neg (show ¬ (0 ≤ a ∧ a < nI (eZ E)) from h1)]
    exact x_SE_code_8 K hr c_SE_codesIn (by omega) ⟨fun _ => hI (Or.inl h1) _, fun q => absurd rfl q⟩
set_option maxRecDepth 20000 in
theorem m_SE_whole {X : am_X} {dd bc bs : Nat} {post : Option am_V → List am_C → Prop} (K : am_ok X b_SE_whole R_SE 3 dd) (hr : am_rt X (some .int) post) (hdd : 3 ≤ dd) {R : sp_R} {room e : Nat} {E : sp_E} {w : List am_C} {a b : Int32} (hw : rx R room e E w)
    (hI : o_whole1 E a b → ∀ lv, AW X 11 lv [] w bc bs ∧ AW X 123 lv [] w bc bs) (hp : ¬ o_whole1 E a b → post (some (aI (o_wholev E a.toNatClampNeg b))) w) : AW X 0 [some (aR 0), some (aI a), some (aI b)] [] w bc bs := by
  obtain ⟨hR, hE, he⟩ := rx_vs hw
  obtain ⟨here, uz, us, uc, bp, uf, vf, uy, vz, vy, ms, me, mt, mn, mk, mw, mg, le, og, ru, sp, sy, sa, uo, vs, vc, vo, fo, rfl, -, -, -, -, hS⟩ := hw
  have hz := hE.1.1
  have he2 := he.2.1
  refine x_SE_whole_0 K hr c_St_has (by omega) ?_
  refine ⟨a, _, rfl, rfl, rfl, ?_⟩
  by_cases h1 : o_in a (eZ E)
  · rw [if_pos (show 0 ≤ a ∧ a < nI (eZ E) from h1)]
    obtain ⟨e1, l1⟩ := o_in_nat (by omega) h1
    have hin : vp_in a room := by rw [e1]; exact vp_in_nI (by omega) (by omega)
    have hf : eF E a.toNatClampNeg < 2 ^ 63 := by have := (hE.2.1 _ l1).1.1; omega
    obtain ⟨q1, q2, q3, q4, q5, q6⟩ := hS.1 _ l1
    have hp2 : o_in b 6 → post (some (aI (o_wholev E a.toNatClampNeg b))) _ := fun h2 => hp (fun q => by rcases q with q | q; exact q h1; exact q h2)
    refine x_SE_whole_8 K hr c_SE_codesIn (by omega) ⟨fun _ => ⟨fun z => ⟨hin, ?_⟩, fun z => ⟨hin, ?_⟩, fun z => ⟨hin, ?_⟩, fun z => ⟨hin, ?_⟩, fun z => ⟨hin, ?_⟩, fun z => ⟨hin, ?_⟩, fun z => ?_⟩, fun z => absurd z (by decide)⟩
    · subst z
      rw [q1]
      refine ⟨eF E a.toNatClampNeg, rfl, rfl, hf, ?_⟩
      exact x_SE_whole_72 K hr (hp2 ⟨by decide, by decide⟩)
    · subst z; rw [q2]; exact hp2 ⟨by decide, by decide⟩
    · subst z; rw [q3]; exact hp2 ⟨by decide, by decide⟩
    · subst z; rw [q4]; exact hp2 ⟨by decide, by decide⟩
    · subst z; rw [q5]; exact hp2 ⟨by decide, by decide⟩
    · subst z; rw [q6]; exact hp2 ⟨by decide, by decide⟩
    · refine (hI (Or.inr (fun q => ?_)) _).2
      obtain ⟨e2, l2⟩ := o_in_nat (by decide) q
      rw [e2, nI_toInt (by omega)] at z
      omega
  · rw [if_neg (show ¬ (0 ≤ a ∧ a < nI (eZ E)) from h1)]
    exact x_SE_whole_8 K hr c_SE_codesIn (by omega) ⟨fun q => absurd rfl q, fun _ => (hI (Or.inl h1) _).1⟩

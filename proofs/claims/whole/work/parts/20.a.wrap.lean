/-! ===== the law's wrappers: contracts ===== -/
theorem fr0 {w1 suf : List am_C} : fr_in [] w1 suf (w1 ++ suf) := by
  show _ = [] ++ (w1.map (sh_c 0) ++ suf)
  rw [sh_w0, List.nil_append]
theorem fr0' {w1 suf W : List am_C} (h : fr_in [] w1 suf W) : W = w1 ++ suf := by
  have h' : W = [] ++ (w1.map (sh_c 0) ++ suf) := h
  rw [sh_w0, List.nil_append] at h'
  exact h'
theorem out_at {w1 r2 : List am_C} {f : Nat → Int64} (h1 : w1.length = 26) (h2 : r2.length = 19) : (w1 ++ (r2 ++ [jC 1 f]))[45]? = some (jC 1 f) := by
  rw [List.getElem?_append_right (by omega), List.getElem?_append_right (by omega), show 45 - w1.length - r2.length = 0 by omega]
  rfl
theorem out_set {w1 r2 : List am_C} {f g : Nat → Int64} (h1 : w1.length = 26) (h2 : r2.length = 19) : (w1 ++ (r2 ++ [jC 1 f])).set 45 (jC 1 g) = w1 ++ (r2 ++ [jC 1 g]) := by
  rw [List.set_append_right _ _ (by omega), List.set_append_right _ _ (by omega), show 45 - w1.length - r2.length = 0 by omega]
  rfl
theorem rx_0 {R : sp_R} {room e : Nat} {E : sp_E} {w : List am_C} (hw : rx R room e E w) : w[0]? = some (oC 0 [aR 1, aR 9, aR 17]) := by
  obtain ⟨here, uz, us, uc, bp, uf, vf, uy, vz, vy, ms, me, mt, mn, mk, mw, mg, le, og, ru, sp, sy, sa, uo, vs, vc, vo, fo, rfl, -⟩ := hw
  rfl
theorem vp_in01 : vp_in (Int32.ofInt 0) 1 := vp_in_nI (n := 0) (N := 1) (by decide) (by decide)
theorem vp_updL_0 (f : Nat → Int64) (x : Int64) : vp_updL f 0 x 0 = x := rfl
def sp_La_state : am_S := fun av w post => ∃ (R : sp_R) (room e : Nat) (E : sp_E) (w1 r2 : List am_C) (f : Nat → Int64), av = [aR 0, aR 45] ∧ w = w1 ++ (r2 ++ [jC 1 f]) ∧ r2.length = 19 ∧ rx R room e E w1 ∧ ∀ (w1' : List am_C) (f' : Nat → Int64), rx (o_state R E).2.1 room e (o_state R E).2.2 w1' → ((o_state R E).1.1 = 0 → f' 0 = ((o_state R E).1.2).toInt64) → post (some (aI (nI (o_state R E).1.1))) (w1' ++ (r2 ++ [jC 1 f']))
theorem cb_La_7 : am_cB R_La 7 y_SE_state b_SE_state 1 (some .int) 0 := ⟨ax_mem (by decide +kernel), cn_SE, ax_mem (by decide +kernel), by decide +kernel, by decide⟩
theorem ci_SE_state : Cond.instanceMethod y_SE_state ∈ am_T := ax_mem (by decide +kernel)
theorem cs_SE_state : Cond.selects y_SE_state.cls y_SE_state y_SE_state ∈ am_T := ax_mem (by decide +kernel)
theorem hd_La_state_U : ax_hd R_La ax_U [(0, 8, 11, 13)] 3 11 := .inl ⟨0, 8, 13, _, rfl, by decide, by decide, by decide, ax_mem (by decide +kernel)⟩
set_option maxRecDepth 20000 in
theorem c_La_state : ConH y_La_state b_La_state 3 (some .int) [(0, 8, 11, 13)] 7 sp_La_state := by
  refine ConH.of (by decide) (fun av w post h => by obtain ⟨R, room, e, E, w1, r2, f, rfl, -⟩ := h; exact Nat.le_of_ble_eq_true rfl) ?_
  intro X K hE hH av w post h hr
  obtain ⟨R, room, e, E, w1, r2, f, rfl, rfl, h2, hw, hp⟩ := h
  have h1 : w1.length = 26 := rx_len hw
  refine aw_aload_n K d_La_state_0 rfl rfl ?_
  refine aw_iconst K d_La_state_1 rfl rfl ?_
  refine aw_aload_n K d_La_state_2 rfl rfl ?_
  by_cases q0 : 8 ≤ rS R
  · have hO : o_state R E = ((1, 0), R, E) := by rw [o_state, if_pos q0]
    rw [hO] at hp
    refine aw_callT K hE hH cT_SE_state_U cb_La_7 ci_SE_state cs_SE_state (by decide) (pre := []) fr0 (k := 0) (ci := 0) (av := []) rfl (rx_0 hw) d_La_state_3 rfl (by decide) ⟨R, room, e, E, rfl, hw, q0⟩ hd_La_state_U (by decide +kernel) (.inl ⟨2, d_La_state_11, by decide, rfl⟩) (Nat.le_refl 1) (Nat.le_refl 6) ?_
    refine aw_iconst K d_La_state_12 rfl rfl ?_
    exact aw_iret K hr d_La_state_13 (hp w1 f hw (fun z => Nat.noConfusion z))
  · have hq0 := q0
    have hO : o_state R E = ((0, nI (rS R)), rS1 R, o_E0 E) := by rw [o_state, if_neg q0]
    rw [hO] at hp
    refine aw_callVF K c_SE_state cb_La_7 ci_SE_state cs_SE_state (by decide) (pre := []) fr0 (k := 0) (ci := 0) (av := []) rfl (rx_0 hw) d_La_state_3 rfl rfl (by decide) (F := fun rv w9 => rv = some (aI (nI (rS R))) ∧ rx (rS1 R) room e (o_E0 E) w9) ⟨R, room, e, E, rfl, hw, Nat.lt_of_not_le q0, fun w9 h9 => ⟨rfl, h9⟩⟩ ?_
    intro rv w2 hF
    obtain ⟨rfl, hw2⟩ := hF
    refine ⟨by rw [h1]; exact rx_len hw2, fun w9 h9 => ?_⟩
    cases fr0' h9
    refine aw_i2l K d_La_state_6 rfl ?_
    refine aw_last K d_La_state_7 rfl (out_at (rx_len hw2) h2) vp_in01 (out_set (rx_len hw2) h2) ?_
    refine aw_goto K d_La_state_8 rfl ?_
    refine aw_iconst K d_La_state_14 rfl rfl ?_
    exact aw_iret K hr d_La_state_15 (hp w2 _ hw2 (fun _ => vp_updL_0 _ _))
def sp_La_message : am_S := fun av w post => ∃ (R : sp_R) (room e : Nat) (E : sp_E) (w1 r2 : List am_C) (f : Nat → Int64), av = [aR 0, aR 45] ∧ w = w1 ++ (r2 ++ [jC 1 f]) ∧ r2.length = 19 ∧ rx R room e E w1 ∧ ∀ (w1' : List am_C) (f' : Nat → Int64), rx (o_message R E).2.1 room e (o_message R E).2.2 w1' → ((o_message R E).1.1 = 0 → f' 0 = ((o_message R E).1.2).toInt64) → post (some (aI (nI (o_message R E).1.1))) (w1' ++ (r2 ++ [jC 1 f']))
theorem cb_La_15 : am_cB R_La 15 y_SE_message b_SE_message 1 (some .int) 0 := ⟨ax_mem (by decide +kernel), cn_SE, ax_mem (by decide +kernel), by decide +kernel, by decide⟩
theorem ci_SE_message : Cond.instanceMethod y_SE_message ∈ am_T := ax_mem (by decide +kernel)
theorem cs_SE_message : Cond.selects y_SE_message.cls y_SE_message y_SE_message ∈ am_T := ax_mem (by decide +kernel)
theorem hd_La_message_U : ax_hd R_La ax_U [(0, 8, 11, 13)] 3 11 := .inl ⟨0, 8, 13, _, rfl, by decide, by decide, by decide, ax_mem (by decide +kernel)⟩
set_option maxRecDepth 20000 in
theorem c_La_message : ConH y_La_message b_La_message 3 (some .int) [(0, 8, 11, 13)] 7 sp_La_message := by
  refine ConH.of (by decide) (fun av w post h => by obtain ⟨R, room, e, E, w1, r2, f, rfl, -⟩ := h; exact Nat.le_of_ble_eq_true rfl) ?_
  intro X K hE hH av w post h hr
  obtain ⟨R, room, e, E, w1, r2, f, rfl, rfl, h2, hw, hp⟩ := h
  have h1 : w1.length = 26 := rx_len hw
  refine aw_aload_n K d_La_message_0 rfl rfl ?_
  refine aw_iconst K d_La_message_1 rfl rfl ?_
  refine aw_aload_n K d_La_message_2 rfl rfl ?_
  by_cases q0 : 6 ≤ rK R
  · have hO : o_message R E = ((1, 0), R, E) := by rw [o_message, if_pos q0]
    rw [hO] at hp
    refine aw_callT K hE hH cT_SE_message_U cb_La_15 ci_SE_message cs_SE_message (by decide) (pre := []) fr0 (k := 0) (ci := 0) (av := []) rfl (rx_0 hw) d_La_message_3 rfl (by decide) ⟨R, room, e, E, rfl, hw, q0⟩ hd_La_message_U (by decide +kernel) (.inl ⟨2, d_La_message_11, by decide, rfl⟩) (Nat.le_refl 1) (Nat.le_refl 6) ?_
    refine aw_iconst K d_La_message_12 rfl rfl ?_
    exact aw_iret K hr d_La_message_13 (hp w1 f hw (fun z => Nat.noConfusion z))
  · have hq0 := q0
    have hO : o_message R E = ((0, nI (rK R)), rK1 R, o_E0 E) := by rw [o_message, if_neg q0]
    rw [hO] at hp
    refine aw_callVF K c_SE_message cb_La_15 ci_SE_message cs_SE_message (by decide) (pre := []) fr0 (k := 0) (ci := 0) (av := []) rfl (rx_0 hw) d_La_message_3 rfl rfl (by decide) (F := fun rv w9 => rv = some (aI (nI (rK R))) ∧ rx (rK1 R) room e (o_E0 E) w9) ⟨R, room, e, E, rfl, hw, Nat.lt_of_not_le q0, fun w9 h9 => ⟨rfl, h9⟩⟩ ?_
    intro rv w2 hF
    obtain ⟨rfl, hw2⟩ := hF
    refine ⟨by rw [h1]; exact rx_len hw2, fun w9 h9 => ?_⟩
    cases fr0' h9
    refine aw_i2l K d_La_message_6 rfl ?_
    refine aw_last K d_La_message_7 rfl (out_at (rx_len hw2) h2) vp_in01 (out_set (rx_len hw2) h2) ?_
    refine aw_goto K d_La_message_8 rfl ?_
    refine aw_iconst K d_La_message_14 rfl rfl ?_
    exact aw_iret K hr d_La_message_15 (hp w2 _ hw2 (fun _ => vp_updL_0 _ _))
def sp_La_rule : am_S := fun av w post => ∃ (R : sp_R) (room e : Nat) (E : sp_E) (a b c : Int32) (w1 r2 : List am_C) (f : Nat → Int64), av = [aR 0, aI a, aI b, aI c, aR 45] ∧ w = w1 ++ (r2 ++ [jC 1 f]) ∧ r2.length = 19 ∧ rx R room e E w1 ∧ ∀ (w1' : List am_C) (f' : Nat → Int64), rx (o_rule R E a b c).2.1 room e (o_rule R E a b c).2.2 w1' → ((o_rule R E a b c).1.1 = 0 → f' 0 = ((o_rule R E a b c).1.2).toInt64) → post (some (aI (nI (o_rule R E a b c).1.1))) (w1' ++ (r2 ++ [jC 1 f']))
theorem cb_La_18 : am_cB R_La 18 y_SE_rule b_SE_rule 4 (some .int) 3 := ⟨ax_mem (by decide +kernel), cn_SE, ax_mem (by decide +kernel), by decide +kernel, by decide⟩
theorem ci_SE_rule : Cond.instanceMethod y_SE_rule ∈ am_T := ax_mem (by decide +kernel)
theorem cs_SE_rule : Cond.selects y_SE_rule.cls y_SE_rule y_SE_rule ∈ am_T := ax_mem (by decide +kernel)
theorem hd_La_rule_I : ax_hd R_La ax_I [(0, 12, 15, 22), (0, 12, 19, 13)] 7 15 := .inl ⟨0, 12, 22, _, rfl, by decide, by decide, by decide, ax_mem (by decide +kernel)⟩
theorem hd_La_rule_U : ax_hd R_La ax_U [(0, 12, 15, 22), (0, 12, 19, 13)] 7 19 := .inr ⟨rfl, 0, 12, 15, 22, 0, 12, 13, _, rfl, by decide, by decide, by decide, by decide, by decide, by decide, ax_mem (by decide +kernel), ax_mem (by decide +kernel)⟩
set_option maxRecDepth 20000 in
theorem c_La_rule : ConH y_La_rule b_La_rule 6 (some .int) [(0, 12, 15, 22), (0, 12, 19, 13)] 7 sp_La_rule := by
  refine ConH.of (by decide) (fun av w post h => by obtain ⟨R, room, e, E, a, b, c, w1, r2, f, rfl, -⟩ := h; exact Nat.le_of_ble_eq_true rfl) ?_
  intro X K hE hH av w post h hr
  obtain ⟨R, room, e, E, a, b, c, w1, r2, f, rfl, rfl, h2, hw, hp⟩ := h
  have h1 : w1.length = 26 := rx_len hw
  refine aw_aload K d_La_rule_0 rfl rfl ?_
  refine aw_iconst K d_La_rule_2 rfl rfl ?_
  refine aw_aload_n K d_La_rule_3 rfl rfl ?_
  refine aw_iload_n K d_La_rule_4 rfl rfl ?_
  refine aw_iload_n K d_La_rule_5 rfl rfl ?_
  refine aw_iload_n K d_La_rule_6 rfl rfl ?_
  by_cases q0 : o_rule1 R a b c
  · have hO : o_rule R E a b c = ((1, 0), R, E) := by rw [o_rule, if_pos q0]
    rw [hO] at hp
    refine aw_callT K hE hH cT_SE_rule_I cb_La_18 ci_SE_rule cs_SE_rule (by decide) (pre := []) fr0 (k := 0) (ci := 0) (av := [aI a, aI b, aI c]) rfl (rx_0 hw) d_La_rule_7 rfl (by decide) ⟨R, room, e, E, a, b, c, rfl, hw, q0⟩ hd_La_rule_I (by decide +kernel) (.inr ⟨5, d_La_rule_15, by decide, rfl⟩) (Nat.le_refl 1) (Nat.le_refl 6) ?_
    refine aw_iconst K d_La_rule_17 rfl rfl ?_
    exact aw_iret K hr d_La_rule_18 (hp w1 f hw (fun z => Nat.noConfusion z))
  · have hq0 := q0
    by_cases q1 : 40 ≤ rU R
    · have hO : o_rule R E a b c = ((2, 0), R, E) := by rw [o_rule, if_neg q0, if_pos q1]
      rw [hO] at hp
      refine aw_callT K hE hH cT_SE_rule_U cb_La_18 ci_SE_rule cs_SE_rule (by decide) (pre := []) fr0 (k := 0) (ci := 0) (av := [aI a, aI b, aI c]) rfl (rx_0 hw) d_La_rule_7 rfl (by decide) ⟨R, room, e, E, a, b, c, rfl, hw, ⟨q0, q1⟩⟩ hd_La_rule_U (by decide +kernel) (.inr ⟨5, d_La_rule_19, by decide, rfl⟩) (Nat.le_refl 1) (Nat.le_refl 6) ?_
      refine aw_iconst K d_La_rule_21 rfl rfl ?_
      exact aw_iret K hr d_La_rule_22 (hp w1 f hw (fun z => Nat.noConfusion z))
    · have hq1 := q1
      have hO : o_rule R E a b c = ((0, nI (rU R)), r_rule R a.toNatClampNeg (b + 1).toNatClampNeg c.toNatClampNeg, o_E0 E) := by rw [o_rule, if_neg q0, if_neg q1]
      rw [hO] at hp
      refine aw_callVF K c_SE_rule cb_La_18 ci_SE_rule cs_SE_rule (by decide) (pre := []) fr0 (k := 0) (ci := 0) (av := [aI a, aI b, aI c]) rfl (rx_0 hw) d_La_rule_7 rfl rfl (by decide) (F := fun rv w9 => rv = some (aI (nI (rU R))) ∧ rx (r_rule R a.toNatClampNeg (b + 1).toNatClampNeg c.toNatClampNeg) room e (o_E0 E) w9) ⟨R, room, e, E, a, b, c, rfl, hw, ⟨q0, Nat.lt_of_not_le q1⟩, fun w9 h9 => ⟨rfl, h9⟩⟩ ?_
      intro rv w2 hF
      obtain ⟨rfl, hw2⟩ := hF
      refine ⟨by rw [h1]; exact rx_len hw2, fun w9 h9 => ?_⟩
      cases fr0' h9
      refine aw_i2l K d_La_rule_10 rfl ?_
      refine aw_last K d_La_rule_11 rfl (out_at (rx_len hw2) h2) vp_in01 (out_set (rx_len hw2) h2) ?_
      refine aw_goto K d_La_rule_12 rfl ?_
      refine aw_iconst K d_La_rule_23 rfl rfl ?_
      exact aw_iret K hr d_La_rule_24 (hp w2 _ hw2 (fun _ => vp_updL_0 _ _))
def sp_La_sends : am_S := fun av w post => ∃ (R : sp_R) (room e : Nat) (E : sp_E) (a b c : Int32) (w1 r2 : List am_C) (f : Nat → Int64), av = [aR 0, aI a, aI b, aI c, aR 45] ∧ w = w1 ++ (r2 ++ [jC 1 f]) ∧ r2.length = 19 ∧ rx R room e E w1 ∧ ∀ (w1' : List am_C) (f' : Nat → Int64), rx (o_sends R E a b c).2.1 room e (o_sends R E a b c).2.2 w1' → ((o_sends R E a b c).1.1 = 0 → f' 0 = ((o_sends R E a b c).1.2).toInt64) → post (some (aI (nI (o_sends R E a b c).1.1))) (w1' ++ (r2 ++ [jC 1 f']))
theorem cb_La_24 : am_cB R_La 24 y_SE_sends b_SE_sends 4 (some .int) 3 := ⟨ax_mem (by decide +kernel), cn_SE, ax_mem (by decide +kernel), by decide +kernel, by decide⟩
theorem ci_SE_sends : Cond.instanceMethod y_SE_sends ∈ am_T := ax_mem (by decide +kernel)
theorem cs_SE_sends : Cond.selects y_SE_sends.cls y_SE_sends y_SE_sends ∈ am_T := ax_mem (by decide +kernel)
theorem hd_La_sends_I : ax_hd R_La ax_I [(0, 12, 15, 22), (0, 12, 19, 13)] 7 15 := .inl ⟨0, 12, 22, _, rfl, by decide, by decide, by decide, ax_mem (by decide +kernel)⟩
theorem hd_La_sends_U : ax_hd R_La ax_U [(0, 12, 15, 22), (0, 12, 19, 13)] 7 19 := .inr ⟨rfl, 0, 12, 15, 22, 0, 12, 13, _, rfl, by decide, by decide, by decide, by decide, by decide, by decide, ax_mem (by decide +kernel), ax_mem (by decide +kernel)⟩
set_option maxRecDepth 20000 in
theorem c_La_sends : ConH y_La_sends b_La_sends 6 (some .int) [(0, 12, 15, 22), (0, 12, 19, 13)] 7 sp_La_sends := by
  refine ConH.of (by decide) (fun av w post h => by obtain ⟨R, room, e, E, a, b, c, w1, r2, f, rfl, -⟩ := h; exact Nat.le_of_ble_eq_true rfl) ?_
  intro X K hE hH av w post h hr
  obtain ⟨R, room, e, E, a, b, c, w1, r2, f, rfl, rfl, h2, hw, hp⟩ := h
  have h1 : w1.length = 26 := rx_len hw
  refine aw_aload K d_La_sends_0 rfl rfl ?_
  refine aw_iconst K d_La_sends_2 rfl rfl ?_
  refine aw_aload_n K d_La_sends_3 rfl rfl ?_
  refine aw_iload_n K d_La_sends_4 rfl rfl ?_
  refine aw_iload_n K d_La_sends_5 rfl rfl ?_
  refine aw_iload_n K d_La_sends_6 rfl rfl ?_
  by_cases q0 : o_sends1 R a b c
  · have hO : o_sends R E a b c = ((1, 0), R, E) := by rw [o_sends, if_pos q0]
    rw [hO] at hp
    refine aw_callT K hE hH cT_SE_sends_I cb_La_24 ci_SE_sends cs_SE_sends (by decide) (pre := []) fr0 (k := 0) (ci := 0) (av := [aI a, aI b, aI c]) rfl (rx_0 hw) d_La_sends_7 rfl (by decide) ⟨R, room, e, E, a, b, c, rfl, hw, q0⟩ hd_La_sends_I (by decide +kernel) (.inr ⟨5, d_La_sends_15, by decide, rfl⟩) (Nat.le_refl 1) (Nat.le_refl 6) ?_
    refine aw_iconst K d_La_sends_17 rfl rfl ?_
    exact aw_iret K hr d_La_sends_18 (hp w1 f hw (fun z => Nat.noConfusion z))
  · have hq0 := q0
    by_cases q1 : 4 ≤ rC R a.toNatClampNeg
    · have hO : o_sends R E a b c = ((2, 0), R, E) := by rw [o_sends, if_neg q0, if_pos q1]
      rw [hO] at hp
      refine aw_callT K hE hH cT_SE_sends_U cb_La_24 ci_SE_sends cs_SE_sends (by decide) (pre := []) fr0 (k := 0) (ci := 0) (av := [aI a, aI b, aI c]) rfl (rx_0 hw) d_La_sends_7 rfl (by decide) ⟨R, room, e, E, a, b, c, rfl, hw, ⟨q0, q1⟩⟩ hd_La_sends_U (by decide +kernel) (.inr ⟨5, d_La_sends_19, by decide, rfl⟩) (Nat.le_refl 1) (Nat.le_refl 6) ?_
      refine aw_iconst K d_La_sends_21 rfl rfl ?_
      exact aw_iret K hr d_La_sends_22 (hp w1 f hw (fun z => Nat.noConfusion z))
    · have hq1 := q1
      have hO : o_sends R E a b c = ((0, nI (rC R a.toNatClampNeg + 1)), r_send R a.toNatClampNeg b.toNatClampNeg c.toNatClampNeg, o_E0 E) := by rw [o_sends, if_neg q0, if_neg q1]
      rw [hO] at hp
      refine aw_callVF K c_SE_sends cb_La_24 ci_SE_sends cs_SE_sends (by decide) (pre := []) fr0 (k := 0) (ci := 0) (av := [aI a, aI b, aI c]) rfl (rx_0 hw) d_La_sends_7 rfl rfl (by decide) (F := fun rv w9 => rv = some (aI (nI (rC R a.toNatClampNeg + 1))) ∧ rx (r_send R a.toNatClampNeg b.toNatClampNeg c.toNatClampNeg) room e (o_E0 E) w9) ⟨R, room, e, E, a, b, c, rfl, hw, ⟨q0, Nat.lt_of_not_le q1⟩, fun w9 h9 => ⟨rfl, h9⟩⟩ ?_
      intro rv w2 hF
      obtain ⟨rfl, hw2⟩ := hF
      refine ⟨by rw [h1]; exact rx_len hw2, fun w9 h9 => ?_⟩
      cases fr0' h9
      refine aw_i2l K d_La_sends_10 rfl ?_
      refine aw_last K d_La_sends_11 rfl (out_at (rx_len hw2) h2) vp_in01 (out_set (rx_len hw2) h2) ?_
      refine aw_goto K d_La_sends_12 rfl ?_
      refine aw_iconst K d_La_sends_23 rfl rfl ?_
      exact aw_iret K hr d_La_sends_24 (hp w2 _ hw2 (fun _ => vp_updL_0 _ _))
def sp_La_bad : am_S := fun av w post => ∃ (R : sp_R) (room e : Nat) (E : sp_E) (a b : Int32) (w1 r2 : List am_C) (f : Nat → Int64), av = [aR 0, aI a, aI b, aR 45] ∧ w = w1 ++ (r2 ++ [jC 1 f]) ∧ r2.length = 19 ∧ rx R room e E w1 ∧ ∀ (w1' : List am_C) (f' : Nat → Int64), rx (o_bad R E a b).2.1 room e (o_bad R E a b).2.2 w1' → ((o_bad R E a b).1.1 = 0 → f' 0 = ((o_bad R E a b).1.2).toInt64) → post (some (aI (nI (o_bad R E a b).1.1))) (w1' ++ (r2 ++ [jC 1 f']))
theorem cb_La_27 : am_cB R_La 27 y_SE_bad b_SE_bad 3 (some .boolean) 2 := ⟨ax_mem (by decide +kernel), cn_SE, ax_mem (by decide +kernel), by decide +kernel, by decide⟩
theorem ci_SE_bad : Cond.instanceMethod y_SE_bad ∈ am_T := ax_mem (by decide +kernel)
theorem cs_SE_bad : Cond.selects y_SE_bad.cls y_SE_bad y_SE_bad ∈ am_T := ax_mem (by decide +kernel)
theorem hd_La_bad_I : ax_hd R_La ax_I [(0, 17, 20, 22)] 5 20 := .inl ⟨0, 17, 22, _, rfl, by decide, by decide, by decide, ax_mem (by decide +kernel)⟩
set_option maxRecDepth 20000 in
theorem c_La_bad : ConH y_La_bad b_La_bad 5 (some .int) [(0, 17, 20, 22)] 7 sp_La_bad := by
  refine ConH.of (by decide) (fun av w post h => by obtain ⟨R, room, e, E, a, b, w1, r2, f, rfl, -⟩ := h; exact Nat.le_of_ble_eq_true rfl) ?_
  intro X K hE hH av w post h hr
  obtain ⟨R, room, e, E, a, b, w1, r2, f, rfl, rfl, h2, hw, hp⟩ := h
  have h1 : w1.length = 26 := rx_len hw
  refine aw_aload_n K d_La_bad_0 rfl rfl ?_
  refine aw_iconst K d_La_bad_1 rfl rfl ?_
  refine aw_aload_n K d_La_bad_2 rfl rfl ?_
  refine aw_iload_n K d_La_bad_3 rfl rfl ?_
  refine aw_iload_n K d_La_bad_4 rfl rfl ?_
  by_cases q0 : o_bad1 R a b
  · have hO : o_bad R E a b = ((1, 0), R, E) := by rw [o_bad, if_pos q0]
    rw [hO] at hp
    refine aw_callT K hE hH cT_SE_bad_I cb_La_27 ci_SE_bad cs_SE_bad (by decide) (pre := []) fr0 (k := 0) (ci := 0) (av := [aI a, aI b]) rfl (rx_0 hw) d_La_bad_5 rfl (by decide) ⟨R, room, e, E, a, b, rfl, hw, q0⟩ hd_La_bad_I (by decide +kernel) (.inr ⟨4, d_La_bad_20, by decide, rfl⟩) (Nat.le_refl 1) (Nat.le_refl 6) ?_
    refine aw_iconst K d_La_bad_22 rfl rfl ?_
    exact aw_iret K hr d_La_bad_23 (hp w1 f hw (fun z => Nat.noConfusion z))
  · have hq0 := q0
    by_cases q5 : rB R a.toNatClampNeg b.toNatClampNeg = true
    · have hO : o_bad R E a b = ((0, 0), R, E) := by rw [o_bad, if_neg q0, if_pos q5]
      rw [hO] at hp
      refine aw_callVF K c_SE_bad cb_La_27 ci_SE_bad cs_SE_bad (by decide) (pre := []) fr0 (k := 0) (ci := 0) (av := [aI a, aI b]) rfl (rx_0 hw) d_La_bad_5 rfl rfl (by decide) (F := fun rv w9 => rv = some (aI 0) ∧ rx (R) room e (E) w9) ⟨R, room, e, E, a, b, rfl, hw, q0, ⟨fun _ => ⟨rfl, hw⟩, fun z => absurd q5 z⟩⟩ ?_
      intro rv w2 hF
      obtain ⟨rfl, hw2⟩ := hF
      refine ⟨by rw [h1]; exact rx_len hw2, fun w9 h9 => ?_⟩
      cases fr0' h9
      refine aw_if_eq K d_La_bad_8 rfl rfl (fun _ => ?_) (fun z => absurd rfl z)
      refine aw_lconst K d_La_bad_15 rfl rfl ?_
      refine aw_last K d_La_bad_16 rfl (out_at (rx_len hw2) h2) vp_in01 (out_set (rx_len hw2) h2) ?_
      refine aw_goto K d_La_bad_17 rfl ?_
      refine aw_iconst K d_La_bad_24 rfl rfl ?_
      exact aw_iret K hr d_La_bad_25 (hp w2 _ hw2 (fun _ => vp_updL_0 _ _))
    · have hO : o_bad R E a b = ((0, 1), r_bad R a.toNatClampNeg b.toNatClampNeg, o_E0 E) := by rw [o_bad, if_neg q0, if_neg q5]
      rw [hO] at hp
      refine aw_callVF K c_SE_bad cb_La_27 ci_SE_bad cs_SE_bad (by decide) (pre := []) fr0 (k := 0) (ci := 0) (av := [aI a, aI b]) rfl (rx_0 hw) d_La_bad_5 rfl rfl (by decide) (F := fun rv w9 => rv = some (aI 1) ∧ rx (r_bad R a.toNatClampNeg b.toNatClampNeg) room e (o_E0 E) w9) ⟨R, room, e, E, a, b, rfl, hw, q0, ⟨fun z => absurd z q5, fun _ w9 h9 => ⟨rfl, h9⟩⟩⟩ ?_
      intro rv w2 hF
      obtain ⟨rfl, hw2⟩ := hF
      refine ⟨by rw [h1]; exact rx_len hw2, fun w9 h9 => ?_⟩
      cases fr0' h9
      refine aw_if_eq K d_La_bad_8 rfl rfl (fun z => absurd z (by decide)) (fun _ => ?_)
      refine aw_lconst K d_La_bad_11 rfl rfl ?_
      refine aw_goto K d_La_bad_12 rfl ?_
      refine aw_last K d_La_bad_16 rfl (out_at (rx_len hw2) h2) vp_in01 (out_set (rx_len hw2) h2) ?_
      refine aw_goto K d_La_bad_17 rfl ?_
      refine aw_iconst K d_La_bad_24 rfl rfl ?_
      exact aw_iret K hr d_La_bad_25 (hp w2 _ hw2 (fun _ => vp_updL_0 _ _))
def sp_La_go : am_S := fun av w post => ∃ (R : sp_R) (room e : Nat) (E : sp_E) (a : Int32) (w1 r2 : List am_C) (f : Nat → Int64), av = [aR 0, aI a, aR 45] ∧ w = w1 ++ (r2 ++ [jC 1 f]) ∧ r2.length = 19 ∧ rx R room e E w1 ∧ ∀ (w1' : List am_C) (f' : Nat → Int64), rx (o_go R room E a).2.1 room e (o_go R room E a).2.2 w1' → ((o_go R room E a).1.1 = 0 → f' 0 = ((o_go R room E a).1.2).toInt64) → post (some (aI (nI (o_go R room E a).1.1))) (w1' ++ (r2 ++ [jC 1 f']))
theorem cb_La_31 : am_cB R_La 31 y_SE_go b_SE_go 2 (some .int) 1 := ⟨ax_mem (by decide +kernel), cn_SE, ax_mem (by decide +kernel), by decide +kernel, by decide⟩
theorem ci_SE_go : Cond.instanceMethod y_SE_go ∈ am_T := ax_mem (by decide +kernel)
theorem cs_SE_go : Cond.selects y_SE_go.cls y_SE_go y_SE_go ∈ am_T := ax_mem (by decide +kernel)
theorem hd_La_go_I : ax_hd R_La ax_I [(0, 9, 12, 22)] 4 12 := .inl ⟨0, 9, 22, _, rfl, by decide, by decide, by decide, ax_mem (by decide +kernel)⟩
set_option maxRecDepth 20000 in
theorem c_La_go : ConH y_La_go b_La_go 4 (some .int) [(0, 9, 12, 22)] 8 sp_La_go := by
  refine ConH.of (by decide) (fun av w post h => by obtain ⟨R, room, e, E, a, w1, r2, f, rfl, -⟩ := h; exact Nat.le_of_ble_eq_true rfl) ?_
  intro X K hE hH av w post h hr
  obtain ⟨R, room, e, E, a, w1, r2, f, rfl, rfl, h2, hw, hp⟩ := h
  have h1 : w1.length = 26 := rx_len hw
  refine aw_aload_n K d_La_go_0 rfl rfl ?_
  refine aw_iconst K d_La_go_1 rfl rfl ?_
  refine aw_aload_n K d_La_go_2 rfl rfl ?_
  refine aw_iload_n K d_La_go_3 rfl rfl ?_
  by_cases q0 : o_go1 a
  · have hO : o_go R room E a = ((1, 0), R, E) := by rw [o_go, if_pos q0]
    rw [hO] at hp
    refine aw_callT K hE hH cT_SE_go_I cb_La_31 ci_SE_go cs_SE_go (by decide) (pre := []) fr0 (k := 0) (ci := 0) (av := [aI a]) rfl (rx_0 hw) d_La_go_4 rfl (by decide) ⟨R, room, e, E, a, rfl, hw, q0⟩ hd_La_go_I (by decide +kernel) (.inl ⟨3, d_La_go_12, by decide, rfl⟩) (Nat.le_refl 1) (Nat.le_refl 6) ?_
    refine aw_iconst K d_La_go_13 rfl rfl ?_
    exact aw_iret K hr d_La_go_14 (hp w1 f hw (fun z => Nat.noConfusion z))
  · have hq0 := q0
    have hO : o_go R room E a = ((0, nI (eZ (sp_on R room a.toNatClampNeg (sp_bg R E)))), R, sp_on R room a.toNatClampNeg (sp_bg R E)) := by rw [o_go, if_neg q0]
    rw [hO] at hp
    refine aw_callVF K c_SE_go cb_La_31 ci_SE_go cs_SE_go (by decide) (pre := []) fr0 (k := 0) (ci := 0) (av := [aI a]) rfl (rx_0 hw) d_La_go_4 rfl rfl (by decide) (F := fun rv w9 => rv = some (aI (nI (eZ (sp_on R room a.toNatClampNeg (sp_bg R E))))) ∧ rx (R) room e (sp_on R room a.toNatClampNeg (sp_bg R E)) w9) ⟨R, room, e, E, a, rfl, hw, q0, fun w9 h9 => ⟨rfl, h9⟩⟩ ?_
    intro rv w2 hF
    obtain ⟨rfl, hw2⟩ := hF
    refine ⟨by rw [h1]; exact rx_len hw2, fun w9 h9 => ?_⟩
    cases fr0' h9
    refine aw_i2l K d_La_go_7 rfl ?_
    refine aw_last K d_La_go_8 rfl (out_at (rx_len hw2) h2) vp_in01 (out_set (rx_len hw2) h2) ?_
    refine aw_goto K d_La_go_9 rfl ?_
    refine aw_iconst K d_La_go_15 rfl rfl ?_
    exact aw_iret K hr d_La_go_16 (hp w2 _ hw2 (fun _ => vp_updL_0 _ _))
def sp_La_node : am_S := fun av w post => ∃ (R : sp_R) (room e : Nat) (E : sp_E) (a b : Int32) (w1 r2 : List am_C) (f : Nat → Int64), av = [aR 0, aI a, aI b, aR 45] ∧ w = w1 ++ (r2 ++ [jC 1 f]) ∧ r2.length = 19 ∧ rx R room e E w1 ∧ ∀ (w1' : List am_C) (f' : Nat → Int64), rx R room e E w1' → ((o_node R E a b).1 = 0 → f' 0 = ((o_node R E a b).2).toInt64) → post (some (aI (nI (o_node R E a b).1))) (w1' ++ (r2 ++ [jC 1 f']))
theorem cb_La_35 : am_cB R_La 35 y_SE_node b_SE_node 3 (some .int) 2 := ⟨ax_mem (by decide +kernel), cn_SE, ax_mem (by decide +kernel), by decide +kernel, by decide⟩
theorem ci_SE_node : Cond.instanceMethod y_SE_node ∈ am_T := ax_mem (by decide +kernel)
theorem cs_SE_node : Cond.selects y_SE_node.cls y_SE_node y_SE_node ∈ am_T := ax_mem (by decide +kernel)
theorem hd_La_node_O : ax_hd R_La ax_O [(0, 10, 13, 39)] 5 13 := .inl ⟨0, 10, 39, _, rfl, by decide, by decide, by decide, ax_mem (by decide +kernel)⟩
set_option maxRecDepth 20000 in
theorem c_La_node : ConH y_La_node b_La_node 5 (some .int) [(0, 10, 13, 39)] 7 sp_La_node := by
  refine ConH.of (by decide) (fun av w post h => by obtain ⟨R, room, e, E, a, b, w1, r2, f, rfl, -⟩ := h; exact Nat.le_of_ble_eq_true rfl) ?_
  intro X K hE hH av w post h hr
  obtain ⟨R, room, e, E, a, b, w1, r2, f, rfl, rfl, h2, hw, hp⟩ := h
  have h1 : w1.length = 26 := rx_len hw
  refine aw_aload_n K d_La_node_0 rfl rfl ?_
  refine aw_iconst K d_La_node_1 rfl rfl ?_
  refine aw_aload_n K d_La_node_2 rfl rfl ?_
  refine aw_iload_n K d_La_node_3 rfl rfl ?_
  refine aw_iload_n K d_La_node_4 rfl rfl ?_
  by_cases q0 : o_node1 R E a b
  · have hO : o_node R E a b = (1, 0) := by rw [o_node, if_pos q0]
    rw [hO] at hp
    refine aw_callT K hE hH cT_SE_node_O cb_La_35 ci_SE_node cs_SE_node (by decide) (pre := []) fr0 (k := 0) (ci := 0) (av := [aI a, aI b]) rfl (rx_0 hw) d_La_node_5 rfl (by decide) ⟨R, room, e, E, a, b, rfl, hw, q0⟩ hd_La_node_O (by decide +kernel) (.inr ⟨4, d_La_node_13, by decide, rfl⟩) (Nat.le_refl 1) (Nat.le_refl 6) ?_
    refine aw_iconst K d_La_node_15 rfl rfl ?_
    exact aw_iret K hr d_La_node_16 (hp w1 f hw (fun z => Nat.noConfusion z))
  · have hq0 := q0
    have hO : o_node R E a b = (0, nI (sp_st (eF E a.toNatClampNeg) b.toNatClampNeg)) := by rw [o_node, if_neg q0]
    rw [hO] at hp
    refine aw_callVF K c_SE_node cb_La_35 ci_SE_node cs_SE_node (by decide) (pre := []) fr0 (k := 0) (ci := 0) (av := [aI a, aI b]) rfl (rx_0 hw) d_La_node_5 rfl rfl (by decide) (F := fun rv w9 => rv = some (aI (nI (sp_st (eF E a.toNatClampNeg) b.toNatClampNeg))) ∧ rx (R) room e (E) w9) ⟨R, room, e, E, a, b, rfl, hw, q0, ⟨rfl, hw⟩⟩ ?_
    intro rv w2 hF
    obtain ⟨rfl, hw2⟩ := hF
    refine ⟨by rw [h1]; exact rx_len hw2, fun w9 h9 => ?_⟩
    cases fr0' h9
    refine aw_i2l K d_La_node_8 rfl ?_
    refine aw_last K d_La_node_9 rfl (out_at (rx_len hw2) h2) vp_in01 (out_set (rx_len hw2) h2) ?_
    refine aw_goto K d_La_node_10 rfl ?_
    refine aw_iconst K d_La_node_17 rfl rfl ?_
    exact aw_iret K hr d_La_node_18 (hp w2 _ hw2 (fun _ => vp_updL_0 _ _))
def sp_La_code : am_S := fun av w post => ∃ (R : sp_R) (room e : Nat) (E : sp_E) (a b : Int32) (w1 r2 : List am_C) (f : Nat → Int64), av = [aR 0, aI a, aI b, aR 45] ∧ w = w1 ++ (r2 ++ [jC 1 f]) ∧ r2.length = 19 ∧ rx R room e E w1 ∧ ∀ (w1' : List am_C) (f' : Nat → Int64), rx R room e E w1' → ((o_code E a b).1 = 0 → f' 0 = ((o_code E a b).2).toInt64) → post (some (aI (nI (o_code E a b).1))) (w1' ++ (r2 ++ [jC 1 f']))
theorem cb_La_41 : am_cB R_La 41 y_SE_code b_SE_code 3 (some .int) 2 := ⟨ax_mem (by decide +kernel), cn_SE, ax_mem (by decide +kernel), by decide +kernel, by decide⟩
theorem ci_SE_code : Cond.instanceMethod y_SE_code ∈ am_T := ax_mem (by decide +kernel)
theorem cs_SE_code : Cond.selects y_SE_code.cls y_SE_code y_SE_code ∈ am_T := ax_mem (by decide +kernel)
theorem hd_La_code_O : ax_hd R_La ax_O [(0, 10, 13, 39)] 5 13 := .inl ⟨0, 10, 39, _, rfl, by decide, by decide, by decide, ax_mem (by decide +kernel)⟩
set_option maxRecDepth 20000 in
theorem c_La_code : ConH y_La_code b_La_code 5 (some .int) [(0, 10, 13, 39)] 7 sp_La_code := by
  refine ConH.of (by decide) (fun av w post h => by obtain ⟨R, room, e, E, a, b, w1, r2, f, rfl, -⟩ := h; exact Nat.le_of_ble_eq_true rfl) ?_
  intro X K hE hH av w post h hr
  obtain ⟨R, room, e, E, a, b, w1, r2, f, rfl, rfl, h2, hw, hp⟩ := h
  have h1 : w1.length = 26 := rx_len hw
  refine aw_aload_n K d_La_code_0 rfl rfl ?_
  refine aw_iconst K d_La_code_1 rfl rfl ?_
  refine aw_aload_n K d_La_code_2 rfl rfl ?_
  refine aw_iload_n K d_La_code_3 rfl rfl ?_
  refine aw_iload_n K d_La_code_4 rfl rfl ?_
  by_cases q0 : o_code1 E a b
  · have hO : o_code E a b = (1, 0) := by rw [o_code, if_pos q0]
    rw [hO] at hp
    refine aw_callT K hE hH cT_SE_code_O cb_La_41 ci_SE_code cs_SE_code (by decide) (pre := []) fr0 (k := 0) (ci := 0) (av := [aI a, aI b]) rfl (rx_0 hw) d_La_code_5 rfl (by decide) ⟨R, room, e, E, a, b, rfl, hw, q0⟩ hd_La_code_O (by decide +kernel) (.inr ⟨4, d_La_code_13, by decide, rfl⟩) (Nat.le_refl 1) (Nat.le_refl 6) ?_
    refine aw_iconst K d_La_code_15 rfl rfl ?_
    exact aw_iret K hr d_La_code_16 (hp w1 f hw (fun z => Nat.noConfusion z))
  · have hq0 := q0
    have hO : o_code E a b = (0, nI ((sp_cs (eF E a.toNatClampNeg)).getD b.toNatClampNeg 0)) := by rw [o_code, if_neg q0]
    rw [hO] at hp
    refine aw_callVF K c_SE_code cb_La_41 ci_SE_code cs_SE_code (by decide) (pre := []) fr0 (k := 0) (ci := 0) (av := [aI a, aI b]) rfl (rx_0 hw) d_La_code_5 rfl rfl (by decide) (F := fun rv w9 => rv = some (aI (nI ((sp_cs (eF E a.toNatClampNeg)).getD b.toNatClampNeg 0))) ∧ rx (R) room e (E) w9) ⟨R, room, e, E, a, b, rfl, hw, q0, ⟨rfl, hw⟩⟩ ?_
    intro rv w2 hF
    obtain ⟨rfl, hw2⟩ := hF
    refine ⟨by rw [h1]; exact rx_len hw2, fun w9 h9 => ?_⟩
    cases fr0' h9
    refine aw_i2l K d_La_code_8 rfl ?_
    refine aw_last K d_La_code_9 rfl (out_at (rx_len hw2) h2) vp_in01 (out_set (rx_len hw2) h2) ?_
    refine aw_goto K d_La_code_10 rfl ?_
    refine aw_iconst K d_La_code_17 rfl rfl ?_
    exact aw_iret K hr d_La_code_18 (hp w2 _ hw2 (fun _ => vp_updL_0 _ _))
def sp_La_whole : am_S := fun av w post => ∃ (R : sp_R) (room e : Nat) (E : sp_E) (a b : Int32) (w1 r2 : List am_C) (f : Nat → Int64), av = [aR 0, aI a, aI b, aR 45] ∧ w = w1 ++ (r2 ++ [jC 1 f]) ∧ r2.length = 19 ∧ rx R room e E w1 ∧ ∀ (w1' : List am_C) (f' : Nat → Int64), rx R room e E w1' → ((o_whole E a b).1 = 0 → f' 0 = ((o_whole E a b).2).toInt64) → post (some (aI (nI (o_whole E a b).1))) (w1' ++ (r2 ++ [jC 1 f']))
theorem cb_La_44 : am_cB R_La 44 y_SE_whole b_SE_whole 3 (some .int) 2 := ⟨ax_mem (by decide +kernel), cn_SE, ax_mem (by decide +kernel), by decide +kernel, by decide⟩
theorem ci_SE_whole : Cond.instanceMethod y_SE_whole ∈ am_T := ax_mem (by decide +kernel)
theorem cs_SE_whole : Cond.selects y_SE_whole.cls y_SE_whole y_SE_whole ∈ am_T := ax_mem (by decide +kernel)
theorem hd_La_whole_O : ax_hd R_La ax_O [(0, 10, 13, 39)] 5 13 := .inl ⟨0, 10, 39, _, rfl, by decide, by decide, by decide, ax_mem (by decide +kernel)⟩
set_option maxRecDepth 20000 in
theorem c_La_whole : ConH y_La_whole b_La_whole 5 (some .int) [(0, 10, 13, 39)] 7 sp_La_whole := by
  refine ConH.of (by decide) (fun av w post h => by obtain ⟨R, room, e, E, a, b, w1, r2, f, rfl, -⟩ := h; exact Nat.le_of_ble_eq_true rfl) ?_
  intro X K hE hH av w post h hr
  obtain ⟨R, room, e, E, a, b, w1, r2, f, rfl, rfl, h2, hw, hp⟩ := h
  have h1 : w1.length = 26 := rx_len hw
  refine aw_aload_n K d_La_whole_0 rfl rfl ?_
  refine aw_iconst K d_La_whole_1 rfl rfl ?_
  refine aw_aload_n K d_La_whole_2 rfl rfl ?_
  refine aw_iload_n K d_La_whole_3 rfl rfl ?_
  refine aw_iload_n K d_La_whole_4 rfl rfl ?_
  by_cases q0 : o_whole1 E a b
  · have hO : o_whole E a b = (1, 0) := by rw [o_whole, if_pos q0]
    rw [hO] at hp
    refine aw_callT K hE hH cT_SE_whole_O cb_La_44 ci_SE_whole cs_SE_whole (by decide) (pre := []) fr0 (k := 0) (ci := 0) (av := [aI a, aI b]) rfl (rx_0 hw) d_La_whole_5 rfl (by decide) ⟨R, room, e, E, a, b, rfl, hw, q0⟩ hd_La_whole_O (by decide +kernel) (.inr ⟨4, d_La_whole_13, by decide, rfl⟩) (Nat.le_refl 1) (Nat.le_refl 6) ?_
    refine aw_iconst K d_La_whole_15 rfl rfl ?_
    exact aw_iret K hr d_La_whole_16 (hp w1 f hw (fun z => Nat.noConfusion z))
  · have hq0 := q0
    have hO : o_whole E a b = (0, o_wholev E a.toNatClampNeg b) := by rw [o_whole, if_neg q0]
    rw [hO] at hp
    refine aw_callVF K c_SE_whole cb_La_44 ci_SE_whole cs_SE_whole (by decide) (pre := []) fr0 (k := 0) (ci := 0) (av := [aI a, aI b]) rfl (rx_0 hw) d_La_whole_5 rfl rfl (by decide) (F := fun rv w9 => rv = some (aI (o_wholev E a.toNatClampNeg b)) ∧ rx (R) room e (E) w9) ⟨R, room, e, E, a, b, rfl, hw, q0, ⟨rfl, hw⟩⟩ ?_
    intro rv w2 hF
    obtain ⟨rfl, hw2⟩ := hF
    refine ⟨by rw [h1]; exact rx_len hw2, fun w9 h9 => ?_⟩
    cases fr0' h9
    refine aw_i2l K d_La_whole_8 rfl ?_
    refine aw_last K d_La_whole_9 rfl (out_at (rx_len hw2) h2) vp_in01 (out_set (rx_len hw2) h2) ?_
    refine aw_goto K d_La_whole_10 rfl ?_
    refine aw_iconst K d_La_whole_17 rfl rfl ?_
    exact aw_iret K hr d_La_whole_18 (hp w2 _ hw2 (fun _ => vp_updL_0 _ _))
def sp_La_wayAt : am_S := fun av w post => ∃ (R : sp_R) (room e : Nat) (E : sp_E) (a : Int32) (w1 r2 : List am_C) (f : Nat → Int64), av = [aR 0, aI a, aR 45] ∧ w = w1 ++ (r2 ++ [jC 1 f]) ∧ r2.length = 19 ∧ rx R room e E w1 ∧ ∀ (w1' : List am_C) (f' : Nat → Int64), rx R room e E w1' → ((o_wayAt E a).1 = 0 → f' 0 = ((o_wayAt E a).2).toInt64) → post (some (aI (nI (o_wayAt E a).1))) (w1' ++ (r2 ++ [jC 1 f']))
theorem cb_La_47 : am_cB R_La 47 y_SE_wayAt b_SE_wayAt 2 (some .int) 1 := ⟨ax_mem (by decide +kernel), cn_SE, ax_mem (by decide +kernel), by decide +kernel, by decide⟩
theorem ci_SE_wayAt : Cond.instanceMethod y_SE_wayAt ∈ am_T := ax_mem (by decide +kernel)
theorem cs_SE_wayAt : Cond.selects y_SE_wayAt.cls y_SE_wayAt y_SE_wayAt ∈ am_T := ax_mem (by decide +kernel)
theorem hd_La_wayAt_O : ax_hd R_La ax_O [(0, 9, 12, 39)] 4 12 := .inl ⟨0, 9, 39, _, rfl, by decide, by decide, by decide, ax_mem (by decide +kernel)⟩
set_option maxRecDepth 20000 in
theorem c_La_wayAt : ConH y_La_wayAt b_La_wayAt 4 (some .int) [(0, 9, 12, 39)] 7 sp_La_wayAt := by
  refine ConH.of (by decide) (fun av w post h => by obtain ⟨R, room, e, E, a, w1, r2, f, rfl, -⟩ := h; exact Nat.le_of_ble_eq_true rfl) ?_
  intro X K hE hH av w post h hr
  obtain ⟨R, room, e, E, a, w1, r2, f, rfl, rfl, h2, hw, hp⟩ := h
  have h1 : w1.length = 26 := rx_len hw
  refine aw_aload_n K d_La_wayAt_0 rfl rfl ?_
  refine aw_iconst K d_La_wayAt_1 rfl rfl ?_
  refine aw_aload_n K d_La_wayAt_2 rfl rfl ?_
  refine aw_iload_n K d_La_wayAt_3 rfl rfl ?_
  by_cases q0 : o_wayAt1 E a
  · have hO : o_wayAt E a = (1, 0) := by rw [o_wayAt, if_pos q0]
    rw [hO] at hp
    refine aw_callT K hE hH cT_SE_wayAt_O cb_La_47 ci_SE_wayAt cs_SE_wayAt (by decide) (pre := []) fr0 (k := 0) (ci := 0) (av := [aI a]) rfl (rx_0 hw) d_La_wayAt_4 rfl (by decide) ⟨R, room, e, E, a, rfl, hw, q0⟩ hd_La_wayAt_O (by decide +kernel) (.inl ⟨3, d_La_wayAt_12, by decide, rfl⟩) (Nat.le_refl 1) (Nat.le_refl 6) ?_
    refine aw_iconst K d_La_wayAt_13 rfl rfl ?_
    exact aw_iret K hr d_La_wayAt_14 (hp w1 f hw (fun z => Nat.noConfusion z))
  · have hq0 := q0
    have hO : o_wayAt E a = (0, nI (sp_wy E a.toNatClampNeg (eZ E) (eZ E - 1))) := by rw [o_wayAt, if_neg q0]
    rw [hO] at hp
    refine aw_callVF K c_SE_wayAt cb_La_47 ci_SE_wayAt cs_SE_wayAt (by decide) (pre := []) fr0 (k := 0) (ci := 0) (av := [aI a]) rfl (rx_0 hw) d_La_wayAt_4 rfl rfl (by decide) (F := fun rv w9 => rv = some (aI (nI (sp_wy E a.toNatClampNeg (eZ E) (eZ E - 1)))) ∧ rx (R) room e (E) w9) ⟨R, room, e, E, a, rfl, hw, q0, ⟨rfl, hw⟩⟩ ?_
    intro rv w2 hF
    obtain ⟨rfl, hw2⟩ := hF
    refine ⟨by rw [h1]; exact rx_len hw2, fun w9 h9 => ?_⟩
    cases fr0' h9
    refine aw_i2l K d_La_wayAt_7 rfl ?_
    refine aw_last K d_La_wayAt_8 rfl (out_at (rx_len hw2) h2) vp_in01 (out_set (rx_len hw2) h2) ?_
    refine aw_goto K d_La_wayAt_9 rfl ?_
    refine aw_iconst K d_La_wayAt_15 rfl rfl ?_
    exact aw_iret K hr d_La_wayAt_16 (hp w2 _ hw2 (fun _ => vp_updL_0 _ _))

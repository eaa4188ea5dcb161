set_option maxRecDepth 20000 in
theorem x_SE_state_0 {X : am_X} {dd bc bs : Nat} (K : am_ok X b_SE_state R_SE 1 dd) {post : Option am_V → List am_C → Prop} (hr : am_rt X (some .int) post) {sp_Ex_forget : am_S} {dd_Ex_forget : Nat} (c_Ex_forget : Con y_Ex_forget b_Ex_forget 1 none dd_Ex_forget 0 0 false sp_Ex_forget) (hdd_Ex_forget : dd_Ex_forget + 1 ≤ dd) {m_nodes m_states m_kinds m_rules e_ending e_gone e_steps e_stepsBack e_stuck e_stoodFor e_stepsHere : Int32} {m_badPairs : Int64} {c2 c3 c4 c5 c6 c7 c8 c9 c10 c11 c12 c13 c14 c15 c16 c18 c19 c20 c21 c22 c23 c24 c25 : am_C}
    (h : (m_states < 8 → sp_Ex_forget [aR 17] [oC 0 [aR 1, aR 9, aR 17], oC 1 [aI m_nodes, aI m_states, aI m_kinds, aI m_rules, aR 2, aR 3, aR 4, aR 5, aR 6, aR 7, aR 8, aL m_badPairs], c2, c3, c4, c5, c6, c7, c8, c9, c10, c11, c12, c13, c14, c15, c16, oC 3 [aR 1, aR 9, aI e_ending, aI e_gone, aI e_steps, aI e_stepsBack, aI e_stuck, aI e_stoodFor, aI e_stepsHere, aR 18, aR 22], c18, c19, c20, c21, c22, c23, c24, c25] (fun rv w' => AW X 29 [some (aR 0)] (rv.toList ++ []) w' bc bs)) ∧ (¬ m_states < 8 → AW X 12 [some (aR 0)] [] [oC 0 [aR 1, aR 9, aR 17], oC 1 [aI m_nodes, aI m_states, aI m_kinds, aI m_rules, aR 2, aR 3, aR 4, aR 5, aR 6, aR 7, aR 8, aL m_badPairs], c2, c3, c4, c5, c6, c7, c8, c9, c10, c11, c12, c13, c14, c15, c16, oC 3 [aR 1, aR 9, aI e_ending, aI e_gone, aI e_steps, aI e_stepsBack, aI e_stuck, aI e_stoodFor, aI e_stepsHere, aR 18, aR 22], c18, c19, c20, c21, c22, c23, c24, c25] bc bs)) :
    AW X 0 [some (aR 0)] [] [oC 0 [aR 1, aR 9, aR 17], oC 1 [aI m_nodes, aI m_states, aI m_kinds, aI m_rules, aR 2, aR 3, aR 4, aR 5, aR 6, aR 7, aR 8, aL m_badPairs], c2, c3, c4, c5, c6, c7, c8, c9, c10, c11, c12, c13, c14, c15, c16, oC 3 [aR 1, aR 9, aI e_ending, aI e_gone, aI e_steps, aI e_stepsBack, aI e_stuck, aI e_stoodFor, aI e_stepsHere, aR 18, aR 22], c18, c19, c20, c21, c22, c23, c24, c25] bc bs := by
  refine aw_aload_n K d_SE_state_0 rfl rfl ?_
  refine aw_getf K fd_SE_20 d_SE_state_1 rfl rfl rfl ?_
  refine aw_getf K fd_SE_40 d_SE_state_4 rfl rfl rfl ?_
  refine aw_bipush K d_SE_state_7 rfl (v := 8) (by decide) ?_
  refine aw_icmp_lt K d_SE_state_9 (t := 22) (by decide) rfl (fun q => ?_) (fun q => ?_)
  · replace h := h.1 q
    refine aw_aload_n K d_SE_state_22 rfl rfl ?_
    refine aw_getf K fd_SE_36 d_SE_state_23 rfl rfl rfl ?_
    exact aw_callV K c_Ex_forget cb_SE_51 ci_Ex_forget cs_Ex_forget hdd_Ex_forget (k := 17) rfl rfl d_SE_state_26 rfl (av := []) rfl (Nat.le_of_ble_eq_true rfl) h (fun rv w' hF => hF)
  · replace h := h.2 q
    exact h
set_option maxRecDepth 20000 in
theorem x_SE_state_29 {X : am_X} {dd bc bs : Nat} (K : am_ok X b_SE_state R_SE 1 dd) {post : Option am_V → List am_C → Prop} (hr : am_rt X (some .int) post) {m_nodes m_states m_kinds m_rules e_ending e_gone e_steps e_stepsBack e_stuck e_stoodFor e_stepsHere : Int32} {m_badPairs : Int64} {c2 c3 c4 c5 c6 c7 c8 c9 c10 c11 c12 c13 c14 c15 c16 c18 c19 c20 c21 c22 c23 c24 c25 : am_C}
    (h : post (some (aI m_states)) [oC 0 [aR 1, aR 9, aR 17], oC 1 [aI m_nodes, aI (m_states + (1 : Int32)), aI m_kinds, aI m_rules, aR 2, aR 3, aR 4, aR 5, aR 6, aR 7, aR 8, aL m_badPairs], c2, c3, c4, c5, c6, c7, c8, c9, c10, c11, c12, c13, c14, c15, c16, oC 3 [aR 1, aR 9, aI e_ending, aI e_gone, aI e_steps, aI e_stepsBack, aI e_stuck, aI e_stoodFor, aI e_stepsHere, aR 18, aR 22], c18, c19, c20, c21, c22, c23, c24, c25]) :
    AW X 29 [some (aR 0)] [] [oC 0 [aR 1, aR 9, aR 17], oC 1 [aI m_nodes, aI m_states, aI m_kinds, aI m_rules, aR 2, aR 3, aR 4, aR 5, aR 6, aR 7, aR 8, aL m_badPairs], c2, c3, c4, c5, c6, c7, c8, c9, c10, c11, c12, c13, c14, c15, c16, oC 3 [aR 1, aR 9, aI e_ending, aI e_gone, aI e_steps, aI e_stepsBack, aI e_stuck, aI e_stoodFor, aI e_stepsHere, aR 18, aR 22], c18, c19, c20, c21, c22, c23, c24, c25] bc bs := by
  refine aw_aload_n K d_SE_state_29 rfl rfl ?_
  refine aw_getf K fd_SE_20 d_SE_state_30 rfl rfl rfl ?_
  refine aw_dup K d_SE_state_33 rfl (fun _ e => nomatch e) ?_
  refine aw_getf K fd_SE_40 d_SE_state_34 rfl rfl rfl ?_
  refine aw_dup_x1 K d_SE_state_37 rfl (fun _ e => nomatch e) (fun _ e => nomatch e) ?_
  refine aw_iconst K d_SE_state_38 rfl (v := 1) (by decide) ?_
  refine aw_iadd K d_SE_state_39 rfl ?_
  refine aw_putf K fp_SE_40 d_SE_state_40 rfl rfl (Nat.le_of_ble_eq_true rfl) (am_fit_i _) (w' := [oC 0 [aR 1, aR 9, aR 17], oC 1 [aI m_nodes, aI (m_states + (1 : Int32)), aI m_kinds, aI m_rules, aR 2, aR 3, aR 4, aR 5, aR 6, aR 7, aR 8, aL m_badPairs], c2, c3, c4, c5, c6, c7, c8, c9, c10, c11, c12, c13, c14, c15, c16, oC 3 [aR 1, aR 9, aI e_ending, aI e_gone, aI e_steps, aI e_stepsBack, aI e_stuck, aI e_stoodFor, aI e_stepsHere, aR 18, aR 22], c18, c19, c20, c21, c22, c23, c24, c25]) rfl ?_
  exact aw_iret K hr d_SE_state_43 h
set_option maxRecDepth 20000 in
theorem x_SE_message_0 {X : am_X} {dd bc bs : Nat} (K : am_ok X b_SE_message R_SE 1 dd) {post : Option am_V → List am_C → Prop} (hr : am_rt X (some .int) post) {sp_Ex_forget : am_S} {dd_Ex_forget : Nat} (c_Ex_forget : Con y_Ex_forget b_Ex_forget 1 none dd_Ex_forget 0 0 false sp_Ex_forget) (hdd_Ex_forget : dd_Ex_forget + 1 ≤ dd) {m_nodes m_states m_kinds m_rules e_ending e_gone e_steps e_stepsBack e_stuck e_stoodFor e_stepsHere : Int32} {m_badPairs : Int64} {c2 c3 c4 c5 c6 c7 c8 c9 c10 c11 c12 c13 c14 c15 c16 c18 c19 c20 c21 c22 c23 c24 c25 : am_C}
    (h : (m_kinds < 6 → sp_Ex_forget [aR 17] [oC 0 [aR 1, aR 9, aR 17], oC 1 [aI m_nodes, aI m_states, aI m_kinds, aI m_rules, aR 2, aR 3, aR 4, aR 5, aR 6, aR 7, aR 8, aL m_badPairs], c2, c3, c4, c5, c6, c7, c8, c9, c10, c11, c12, c13, c14, c15, c16, oC 3 [aR 1, aR 9, aI e_ending, aI e_gone, aI e_steps, aI e_stepsBack, aI e_stuck, aI e_stoodFor, aI e_stepsHere, aR 18, aR 22], c18, c19, c20, c21, c22, c23, c24, c25] (fun rv w' => AW X 29 [some (aR 0)] (rv.toList ++ []) w' bc bs)) ∧ (¬ m_kinds < 6 → AW X 12 [some (aR 0)] [] [oC 0 [aR 1, aR 9, aR 17], oC 1 [aI m_nodes, aI m_states, aI m_kinds, aI m_rules, aR 2, aR 3, aR 4, aR 5, aR 6, aR 7, aR 8, aL m_badPairs], c2, c3, c4, c5, c6, c7, c8, c9, c10, c11, c12, c13, c14, c15, c16, oC 3 [aR 1, aR 9, aI e_ending, aI e_gone, aI e_steps, aI e_stepsBack, aI e_stuck, aI e_stoodFor, aI e_stepsHere, aR 18, aR 22], c18, c19, c20, c21, c22, c23, c24, c25] bc bs)) :
    AW X 0 [some (aR 0)] [] [oC 0 [aR 1, aR 9, aR 17], oC 1 [aI m_nodes, aI m_states, aI m_kinds, aI m_rules, aR 2, aR 3, aR 4, aR 5, aR 6, aR 7, aR 8, aL m_badPairs], c2, c3, c4, c5, c6, c7, c8, c9, c10, c11, c12, c13, c14, c15, c16, oC 3 [aR 1, aR 9, aI e_ending, aI e_gone, aI e_steps, aI e_stepsBack, aI e_stuck, aI e_stoodFor, aI e_stepsHere, aR 18, aR 22], c18, c19, c20, c21, c22, c23, c24, c25] bc bs := by
  refine aw_aload_n K d_SE_message_0 rfl rfl ?_
  refine aw_getf K fd_SE_20 d_SE_message_1 rfl rfl rfl ?_
  refine aw_getf K fd_SE_54 d_SE_message_4 rfl rfl rfl ?_
  refine aw_bipush K d_SE_message_7 rfl (v := 6) (by decide) ?_
  refine aw_icmp_lt K d_SE_message_9 (t := 22) (by decide) rfl (fun q => ?_) (fun q => ?_)
  · replace h := h.1 q
    refine aw_aload_n K d_SE_message_22 rfl rfl ?_
    refine aw_getf K fd_SE_36 d_SE_message_23 rfl rfl rfl ?_
    exact aw_callV K c_Ex_forget cb_SE_51 ci_Ex_forget cs_Ex_forget hdd_Ex_forget (k := 17) rfl rfl d_SE_message_26 rfl (av := []) rfl (Nat.le_of_ble_eq_true rfl) h (fun rv w' hF => hF)
  · replace h := h.2 q
    exact h
set_option maxRecDepth 20000 in
theorem x_SE_message_29 {X : am_X} {dd bc bs : Nat} (K : am_ok X b_SE_message R_SE 1 dd) {post : Option am_V → List am_C → Prop} (hr : am_rt X (some .int) post) {m_nodes m_states m_kinds m_rules e_ending e_gone e_steps e_stepsBack e_stuck e_stoodFor e_stepsHere : Int32} {m_badPairs : Int64} {c2 c3 c4 c5 c6 c7 c8 c9 c10 c11 c12 c13 c14 c15 c16 c18 c19 c20 c21 c22 c23 c24 c25 : am_C}
    (h : post (some (aI m_kinds)) [oC 0 [aR 1, aR 9, aR 17], oC 1 [aI m_nodes, aI m_states, aI (m_kinds + (1 : Int32)), aI m_rules, aR 2, aR 3, aR 4, aR 5, aR 6, aR 7, aR 8, aL m_badPairs], c2, c3, c4, c5, c6, c7, c8, c9, c10, c11, c12, c13, c14, c15, c16, oC 3 [aR 1, aR 9, aI e_ending, aI e_gone, aI e_steps, aI e_stepsBack, aI e_stuck, aI e_stoodFor, aI e_stepsHere, aR 18, aR 22], c18, c19, c20, c21, c22, c23, c24, c25]) :
    AW X 29 [some (aR 0)] [] [oC 0 [aR 1, aR 9, aR 17], oC 1 [aI m_nodes, aI m_states, aI m_kinds, aI m_rules, aR 2, aR 3, aR 4, aR 5, aR 6, aR 7, aR 8, aL m_badPairs], c2, c3, c4, c5, c6, c7, c8, c9, c10, c11, c12, c13, c14, c15, c16, oC 3 [aR 1, aR 9, aI e_ending, aI e_gone, aI e_steps, aI e_stepsBack, aI e_stuck, aI e_stoodFor, aI e_stepsHere, aR 18, aR 22], c18, c19, c20, c21, c22, c23, c24, c25] bc bs := by
  refine aw_aload_n K d_SE_message_29 rfl rfl ?_
  refine aw_getf K fd_SE_20 d_SE_message_30 rfl rfl rfl ?_
  refine aw_dup K d_SE_message_33 rfl (fun _ e => nomatch e) ?_
  refine aw_getf K fd_SE_54 d_SE_message_34 rfl rfl rfl ?_
  refine aw_dup_x1 K d_SE_message_37 rfl (fun _ e => nomatch e) (fun _ e => nomatch e) ?_
  refine aw_iconst K d_SE_message_38 rfl (v := 1) (by decide) ?_
  refine aw_iadd K d_SE_message_39 rfl ?_
  refine aw_putf K fp_SE_54 d_SE_message_40 rfl rfl (Nat.le_of_ble_eq_true rfl) (am_fit_i _) (w' := [oC 0 [aR 1, aR 9, aR 17], oC 1 [aI m_nodes, aI m_states, aI (m_kinds + (1 : Int32)), aI m_rules, aR 2, aR 3, aR 4, aR 5, aR 6, aR 7, aR 8, aL m_badPairs], c2, c3, c4, c5, c6, c7, c8, c9, c10, c11, c12, c13, c14, c15, c16, oC 3 [aR 1, aR 9, aI e_ending, aI e_gone, aI e_steps, aI e_stepsBack, aI e_stuck, aI e_stoodFor, aI e_stepsHere, aR 18, aR 22], c18, c19, c20, c21, c22, c23, c24, c25]) rfl ?_
  exact aw_iret K hr d_SE_message_43 h
set_option maxRecDepth 20000 in
theorem x_SE_rule_0 {X : am_X} {dd bc bs : Nat} (K : am_ok X b_SE_rule R_SE 4 dd) {post : Option am_V → List am_C → Prop} (hr : am_rt X (some .int) post) {sp_Mo_hasState : am_S} {dd_Mo_hasState : Nat} (c_Mo_hasState : Con y_Mo_hasState b_Mo_hasState 2 (some .boolean) dd_Mo_hasState 0 0 false sp_Mo_hasState) (hdd_Mo_hasState : dd_Mo_hasState + 1 ≤ dd) {l1 l2 l3 m_nodes m_states m_kinds m_rules e_ending e_gone e_steps e_stepsBack e_stuck e_stoodFor e_stepsHere : Int32} {m_badPairs : Int64} {c2 c3 c4 c5 c6 c7 c8 c9 c10 c11 c12 c13 c14 c15 c16 c18 c19 c20 c21 c22 c23 c24 c25 : am_C}
    (h : sp_Mo_hasState [aR 1, aI l1] [oC 0 [aR 1, aR 9, aR 17], oC 1 [aI m_nodes, aI m_states, aI m_kinds, aI m_rules, aR 2, aR 3, aR 4, aR 5, aR 6, aR 7, aR 8, aL m_badPairs], c2, c3, c4, c5, c6, c7, c8, c9, c10, c11, c12, c13, c14, c15, c16, oC 3 [aR 1, aR 9, aI e_ending, aI e_gone, aI e_steps, aI e_stepsBack, aI e_stuck, aI e_stoodFor, aI e_stepsHere, aR 18, aR 22], c18, c19, c20, c21, c22, c23, c24, c25] (fun rv w' => AW X 8 [some (aR 0), some (aI l1), some (aI l2), some (aI l3)] (rv.toList ++ []) w' bc bs)) :
    AW X 0 [some (aR 0), some (aI l1), some (aI l2), some (aI l3)] [] [oC 0 [aR 1, aR 9, aR 17], oC 1 [aI m_nodes, aI m_states, aI m_kinds, aI m_rules, aR 2, aR 3, aR 4, aR 5, aR 6, aR 7, aR 8, aL m_badPairs], c2, c3, c4, c5, c6, c7, c8, c9, c10, c11, c12, c13, c14, c15, c16, oC 3 [aR 1, aR 9, aI e_ending, aI e_gone, aI e_steps, aI e_stepsBack, aI e_stuck, aI e_stoodFor, aI e_stepsHere, aR 18, aR 22], c18, c19, c20, c21, c22, c23, c24, c25] bc bs := by
  refine aw_aload_n K d_SE_rule_0 rfl rfl ?_
  refine aw_getf K fd_SE_20 d_SE_rule_1 rfl rfl rfl ?_
  refine aw_iload_n K d_SE_rule_4 rfl rfl ?_
  exact aw_callV K c_Mo_hasState cb_SE_59 ci_Mo_hasState cs_Mo_hasState hdd_Mo_hasState (k := 1) rfl rfl d_SE_rule_5 rfl (av := [aI l1]) rfl (Nat.le_of_ble_eq_true rfl) h (fun rv w' hF => hF)
set_option maxRecDepth 20000 in
theorem x_SE_rule_8 {X : am_X} {dd bc bs : Nat} (K : am_ok X b_SE_rule R_SE 4 dd) {post : Option am_V → List am_C → Prop} (hr : am_rt X (some .int) post) {sp_Mo_hasState : am_S} {dd_Mo_hasState : Nat} (c_Mo_hasState : Con y_Mo_hasState b_Mo_hasState 2 (some .boolean) dd_Mo_hasState 0 0 false sp_Mo_hasState) (hdd_Mo_hasState : dd_Mo_hasState + 1 ≤ dd) {l1 l2 l3 s0 m_nodes m_states m_kinds m_rules e_ending e_gone e_steps e_stepsBack e_stuck e_stoodFor e_stepsHere : Int32} {m_badPairs : Int64} {c2 c3 c4 c5 c6 c7 c8 c9 c10 c11 c12 c13 c14 c15 c16 c18 c19 c20 c21 c22 c23 c24 c25 : am_C}
    (h : (s0 = 0 → AW X 22 [some (aR 0), some (aI l1), some (aI l2), some (aI l3)] [] [oC 0 [aR 1, aR 9, aR 17], oC 1 [aI m_nodes, aI m_states, aI m_kinds, aI m_rules, aR 2, aR 3, aR 4, aR 5, aR 6, aR 7, aR 8, aL m_badPairs], c2, c3, c4, c5, c6, c7, c8, c9, c10, c11, c12, c13, c14, c15, c16, oC 3 [aR 1, aR 9, aI e_ending, aI e_gone, aI e_steps, aI e_stepsBack, aI e_stuck, aI e_stoodFor, aI e_stepsHere, aR 18, aR 22], c18, c19, c20, c21, c22, c23, c24, c25] bc bs) ∧ (¬ s0 = 0 → sp_Mo_hasState [aR 1, aI l3] [oC 0 [aR 1, aR 9, aR 17], oC 1 [aI m_nodes, aI m_states, aI m_kinds, aI m_rules, aR 2, aR 3, aR 4, aR 5, aR 6, aR 7, aR 8, aL m_badPairs], c2, c3, c4, c5, c6, c7, c8, c9, c10, c11, c12, c13, c14, c15, c16, oC 3 [aR 1, aR 9, aI e_ending, aI e_gone, aI e_steps, aI e_stepsBack, aI e_stuck, aI e_stoodFor, aI e_stepsHere, aR 18, aR 22], c18, c19, c20, c21, c22, c23, c24, c25] (fun rv w' => AW X 19 [some (aR 0), some (aI l1), some (aI l2), some (aI l3)] (rv.toList ++ []) w' bc bs))) :
    AW X 8 [some (aR 0), some (aI l1), some (aI l2), some (aI l3)] [aI s0] [oC 0 [aR 1, aR 9, aR 17], oC 1 [aI m_nodes, aI m_states, aI m_kinds, aI m_rules, aR 2, aR 3, aR 4, aR 5, aR 6, aR 7, aR 8, aL m_badPairs], c2, c3, c4, c5, c6, c7, c8, c9, c10, c11, c12, c13, c14, c15, c16, oC 3 [aR 1, aR 9, aI e_ending, aI e_gone, aI e_steps, aI e_stepsBack, aI e_stuck, aI e_stoodFor, aI e_stepsHere, aR 18, aR 22], c18, c19, c20, c21, c22, c23, c24, c25] bc bs := by
  refine aw_if_eq K d_SE_rule_8 (t := 22) (by decide) rfl (fun q => ?_) (fun q => ?_)
  · replace h := h.1 q
    exact h
  · replace h := h.2 q
    refine aw_aload_n K d_SE_rule_11 rfl rfl ?_
    refine aw_getf K fd_SE_20 d_SE_rule_12 rfl rfl rfl ?_
    refine aw_iload_n K d_SE_rule_15 rfl rfl ?_
    exact aw_callV K c_Mo_hasState cb_SE_59 ci_Mo_hasState cs_Mo_hasState hdd_Mo_hasState (k := 1) rfl rfl d_SE_rule_16 rfl (av := [aI l3]) rfl (Nat.le_of_ble_eq_true rfl) h (fun rv w' hF => hF)
set_option maxRecDepth 20000 in
theorem x_SE_rule_19 {X : am_X} {dd bc bs : Nat} (K : am_ok X b_SE_rule R_SE 4 dd) {post : Option am_V → List am_C → Prop} (hr : am_rt X (some .int) post) {sp_Mo_hasKind : am_S} {dd_Mo_hasKind : Nat} (c_Mo_hasKind : Con y_Mo_hasKind b_Mo_hasKind 2 (some .boolean) dd_Mo_hasKind 0 0 false sp_Mo_hasKind) (hdd_Mo_hasKind : dd_Mo_hasKind + 1 ≤ dd) {l1 l2 l3 s0 m_nodes m_states m_kinds m_rules e_ending e_gone e_steps e_stepsBack e_stuck e_stoodFor e_stepsHere : Int32} {m_badPairs : Int64} {c2 c3 c4 c5 c6 c7 c8 c9 c10 c11 c12 c13 c14 c15 c16 c18 c19 c20 c21 c22 c23 c24 c25 : am_C}
    (h : (¬ s0 = 0 → (l2 = ((-1)) → AW X 58 [some (aR 0), some (aI l1), some (aI l2), some (aI l3)] [] [oC 0 [aR 1, aR 9, aR 17], oC 1 [aI m_nodes, aI m_states, aI m_kinds, aI m_rules, aR 2, aR 3, aR 4, aR 5, aR 6, aR 7, aR 8, aL m_badPairs], c2, c3, c4, c5, c6, c7, c8, c9, c10, c11, c12, c13, c14, c15, c16, oC 3 [aR 1, aR 9, aI e_ending, aI e_gone, aI e_steps, aI e_stepsBack, aI e_stuck, aI e_stoodFor, aI e_stepsHere, aR 18, aR 22], c18, c19, c20, c21, c22, c23, c24, c25] bc bs) ∧ (¬ l2 = ((-1)) → sp_Mo_hasKind [aR 1, aI l2] [oC 0 [aR 1, aR 9, aR 17], oC 1 [aI m_nodes, aI m_states, aI m_kinds, aI m_rules, aR 2, aR 3, aR 4, aR 5, aR 6, aR 7, aR 8, aL m_badPairs], c2, c3, c4, c5, c6, c7, c8, c9, c10, c11, c12, c13, c14, c15, c16, oC 3 [aR 1, aR 9, aI e_ending, aI e_gone, aI e_steps, aI e_stepsBack, aI e_stuck, aI e_stoodFor, aI e_stepsHere, aR 18, aR 22], c18, c19, c20, c21, c22, c23, c24, c25] (fun rv w' => AW X 45 [some (aR 0), some (aI l1), some (aI l2), some (aI l3)] (rv.toList ++ []) w' bc bs))) ∧ (s0 = 0 → AW X 22 [some (aR 0), some (aI l1), some (aI l2), some (aI l3)] [] [oC 0 [aR 1, aR 9, aR 17], oC 1 [aI m_nodes, aI m_states, aI m_kinds, aI m_rules, aR 2, aR 3, aR 4, aR 5, aR 6, aR 7, aR 8, aL m_badPairs], c2, c3, c4, c5, c6, c7, c8, c9, c10, c11, c12, c13, c14, c15, c16, oC 3 [aR 1, aR 9, aI e_ending, aI e_gone, aI e_steps, aI e_stepsBack, aI e_stuck, aI e_stoodFor, aI e_stepsHere, aR 18, aR 22], c18, c19, c20, c21, c22, c23, c24, c25] bc bs)) :
    AW X 19 [some (aR 0), some (aI l1), some (aI l2), some (aI l3)] [aI s0] [oC 0 [aR 1, aR 9, aR 17], oC 1 [aI m_nodes, aI m_states, aI m_kinds, aI m_rules, aR 2, aR 3, aR 4, aR 5, aR 6, aR 7, aR 8, aL m_badPairs], c2, c3, c4, c5, c6, c7, c8, c9, c10, c11, c12, c13, c14, c15, c16, oC 3 [aR 1, aR 9, aI e_ending, aI e_gone, aI e_steps, aI e_stepsBack, aI e_stuck, aI e_stoodFor, aI e_stepsHere, aR 18, aR 22], c18, c19, c20, c21, c22, c23, c24, c25] bc bs := by
  refine aw_if_ne K d_SE_rule_19 (t := 32) (by decide) rfl (fun q => ?_) (fun q => ?_)
  · replace h := h.1 q
    refine aw_iload_n K d_SE_rule_32 rfl rfl ?_
    refine aw_iconst K d_SE_rule_33 rfl (v := (-1)) (by decide) ?_
    refine aw_icmp_eq K d_SE_rule_34 (t := 58) (by decide) rfl (fun q => ?_) (fun q => ?_)
    · replace h := h.1 q
      exact h
    · replace h := h.2 q
      refine aw_aload_n K d_SE_rule_37 rfl rfl ?_
      refine aw_getf K fd_SE_20 d_SE_rule_38 rfl rfl rfl ?_
      refine aw_iload_n K d_SE_rule_41 rfl rfl ?_
      exact aw_callV K c_Mo_hasKind cb_SE_68 ci_Mo_hasKind cs_Mo_hasKind hdd_Mo_hasKind (k := 1) rfl rfl d_SE_rule_42 rfl (av := [aI l2]) rfl (Nat.le_of_ble_eq_true rfl) h (fun rv w' hF => hF)
  · replace h := h.2 q
    exact h
set_option maxRecDepth 20000 in
theorem x_SE_rule_45 {X : am_X} {dd bc bs : Nat} (K : am_ok X b_SE_rule R_SE 4 dd) {post : Option am_V → List am_C → Prop} (hr : am_rt X (some .int) post) {l1 l2 l3 s0 m_nodes m_states m_kinds m_rules e_ending e_gone e_steps e_stepsBack e_stuck e_stoodFor e_stepsHere : Int32} {m_badPairs : Int64} {c2 c3 c4 c5 c6 c7 c8 c9 c10 c11 c12 c13 c14 c15 c16 c18 c19 c20 c21 c22 c23 c24 c25 : am_C}
    (h : (¬ s0 = 0 → AW X 58 [some (aR 0), some (aI l1), some (aI l2), some (aI l3)] [] [oC 0 [aR 1, aR 9, aR 17], oC 1 [aI m_nodes, aI m_states, aI m_kinds, aI m_rules, aR 2, aR 3, aR 4, aR 5, aR 6, aR 7, aR 8, aL m_badPairs], c2, c3, c4, c5, c6, c7, c8, c9, c10, c11, c12, c13, c14, c15, c16, oC 3 [aR 1, aR 9, aI e_ending, aI e_gone, aI e_steps, aI e_stepsBack, aI e_stuck, aI e_stoodFor, aI e_stepsHere, aR 18, aR 22], c18, c19, c20, c21, c22, c23, c24, c25] bc bs) ∧ (s0 = 0 → AW X 48 [some (aR 0), some (aI l1), some (aI l2), some (aI l3)] [] [oC 0 [aR 1, aR 9, aR 17], oC 1 [aI m_nodes, aI m_states, aI m_kinds, aI m_rules, aR 2, aR 3, aR 4, aR 5, aR 6, aR 7, aR 8, aL m_badPairs], c2, c3, c4, c5, c6, c7, c8, c9, c10, c11, c12, c13, c14, c15, c16, oC 3 [aR 1, aR 9, aI e_ending, aI e_gone, aI e_steps, aI e_stepsBack, aI e_stuck, aI e_stoodFor, aI e_stepsHere, aR 18, aR 22], c18, c19, c20, c21, c22, c23, c24, c25] bc bs)) :
    AW X 45 [some (aR 0), some (aI l1), some (aI l2), some (aI l3)] [aI s0] [oC 0 [aR 1, aR 9, aR 17], oC 1 [aI m_nodes, aI m_states, aI m_kinds, aI m_rules, aR 2, aR 3, aR 4, aR 5, aR 6, aR 7, aR 8, aL m_badPairs], c2, c3, c4, c5, c6, c7, c8, c9, c10, c11, c12, c13, c14, c15, c16, oC 3 [aR 1, aR 9, aI e_ending, aI e_gone, aI e_steps, aI e_stepsBack, aI e_stuck, aI e_stoodFor, aI e_stepsHere, aR 18, aR 22], c18, c19, c20, c21, c22, c23, c24, c25] bc bs := by
  refine aw_if_ne K d_SE_rule_45 (t := 58) (by decide) rfl (fun q => ?_) (fun q => ?_)
  · replace h := h.1 q
    exact h
  · replace h := h.2 q
    exact h
set_option maxRecDepth 20000 in
theorem x_SE_rule_58 {X : am_X} {dd bc bs : Nat} (K : am_ok X b_SE_rule R_SE 4 dd) {post : Option am_V → List am_C → Prop} (hr : am_rt X (some .int) post) {sp_Ex_forget : am_S} {dd_Ex_forget : Nat} (c_Ex_forget : Con y_Ex_forget b_Ex_forget 1 none dd_Ex_forget 0 0 false sp_Ex_forget) (hdd_Ex_forget : dd_Ex_forget + 1 ≤ dd) {l1 l2 l3 m_nodes m_states m_kinds m_rules e_ending e_gone e_steps e_stepsBack e_stuck e_stoodFor e_stepsHere : Int32} {m_badPairs : Int64} {c2 c3 c4 c5 c6 c7 c8 c9 c10 c11 c12 c13 c14 c15 c16 c18 c19 c20 c21 c22 c23 c24 c25 : am_C}
    (h : (m_rules < 40 → sp_Ex_forget [aR 17] [oC 0 [aR 1, aR 9, aR 17], oC 1 [aI m_nodes, aI m_states, aI m_kinds, aI m_rules, aR 2, aR 3, aR 4, aR 5, aR 6, aR 7, aR 8, aL m_badPairs], c2, c3, c4, c5, c6, c7, c8, c9, c10, c11, c12, c13, c14, c15, c16, oC 3 [aR 1, aR 9, aI e_ending, aI e_gone, aI e_steps, aI e_stepsBack, aI e_stuck, aI e_stoodFor, aI e_stepsHere, aR 18, aR 22], c18, c19, c20, c21, c22, c23, c24, c25] (fun rv w' => AW X 87 [some (aR 0), some (aI l1), some (aI l2), some (aI l3)] (rv.toList ++ []) w' bc bs)) ∧ (¬ m_rules < 40 → AW X 70 [some (aR 0), some (aI l1), some (aI l2), some (aI l3)] [] [oC 0 [aR 1, aR 9, aR 17], oC 1 [aI m_nodes, aI m_states, aI m_kinds, aI m_rules, aR 2, aR 3, aR 4, aR 5, aR 6, aR 7, aR 8, aL m_badPairs], c2, c3, c4, c5, c6, c7, c8, c9, c10, c11, c12, c13, c14, c15, c16, oC 3 [aR 1, aR 9, aI e_ending, aI e_gone, aI e_steps, aI e_stepsBack, aI e_stuck, aI e_stoodFor, aI e_stepsHere, aR 18, aR 22], c18, c19, c20, c21, c22, c23, c24, c25] bc bs)) :
    AW X 58 [some (aR 0), some (aI l1), some (aI l2), some (aI l3)] [] [oC 0 [aR 1, aR 9, aR 17], oC 1 [aI m_nodes, aI m_states, aI m_kinds, aI m_rules, aR 2, aR 3, aR 4, aR 5, aR 6, aR 7, aR 8, aL m_badPairs], c2, c3, c4, c5, c6, c7, c8, c9, c10, c11, c12, c13, c14, c15, c16, oC 3 [aR 1, aR 9, aI e_ending, aI e_gone, aI e_steps, aI e_stepsBack, aI e_stuck, aI e_stoodFor, aI e_stepsHere, aR 18, aR 22], c18, c19, c20, c21, c22, c23, c24, c25] bc bs := by
  refine aw_aload_n K d_SE_rule_58 rfl rfl ?_
  refine aw_getf K fd_SE_20 d_SE_rule_59 rfl rfl rfl ?_
  refine aw_getf K fd_SE_73 d_SE_rule_62 rfl rfl rfl ?_
  refine aw_bipush K d_SE_rule_65 rfl (v := 40) (by decide) ?_
  refine aw_icmp_lt K d_SE_rule_67 (t := 80) (by decide) rfl (fun q => ?_) (fun q => ?_)
  · replace h := h.1 q
    refine aw_aload_n K d_SE_rule_80 rfl rfl ?_
    refine aw_getf K fd_SE_36 d_SE_rule_81 rfl rfl rfl ?_
    exact aw_callV K c_Ex_forget cb_SE_51 ci_Ex_forget cs_Ex_forget hdd_Ex_forget (k := 17) rfl rfl d_SE_rule_84 rfl (av := []) rfl (Nat.le_of_ble_eq_true rfl) h (fun rv w' hF => hF)
  · replace h := h.2 q
    exact h
set_option maxRecDepth 20000 in
theorem x_SE_rule_87 {X : am_X} {dd bc bs : Nat} (K : am_ok X b_SE_rule R_SE 4 dd) {post : Option am_V → List am_C → Prop} (hr : am_rt X (some .int) post) {sp_Mo_addRule : am_S} {dd_Mo_addRule : Nat} (c_Mo_addRule : Con y_Mo_addRule b_Mo_addRule 4 (some .int) dd_Mo_addRule 0 0 false sp_Mo_addRule) (hdd_Mo_addRule : dd_Mo_addRule + 1 ≤ dd) {l1 l2 l3 m_nodes m_states m_kinds m_rules e_ending e_gone e_steps e_stepsBack e_stuck e_stoodFor e_stepsHere : Int32} {m_badPairs : Int64} {c2 c3 c4 c5 c6 c7 c8 c9 c10 c11 c12 c13 c14 c15 c16 c18 c19 c20 c21 c22 c23 c24 c25 : am_C}
    (h : sp_Mo_addRule [aR 1, aI l1, aI l2, aI l3] [oC 0 [aR 1, aR 9, aR 17], oC 1 [aI m_nodes, aI m_states, aI m_kinds, aI m_rules, aR 2, aR 3, aR 4, aR 5, aR 6, aR 7, aR 8, aL m_badPairs], c2, c3, c4, c5, c6, c7, c8, c9, c10, c11, c12, c13, c14, c15, c16, oC 3 [aR 1, aR 9, aI e_ending, aI e_gone, aI e_steps, aI e_stepsBack, aI e_stuck, aI e_stoodFor, aI e_stepsHere, aR 18, aR 22], c18, c19, c20, c21, c22, c23, c24, c25] (fun rv w' => AW X 97 [none, none, none, none] (rv.toList ++ []) w' bc bs)) :
    AW X 87 [some (aR 0), some (aI l1), some (aI l2), some (aI l3)] [] [oC 0 [aR 1, aR 9, aR 17], oC 1 [aI m_nodes, aI m_states, aI m_kinds, aI m_rules, aR 2, aR 3, aR 4, aR 5, aR 6, aR 7, aR 8, aL m_badPairs], c2, c3, c4, c5, c6, c7, c8, c9, c10, c11, c12, c13, c14, c15, c16, oC 3 [aR 1, aR 9, aI e_ending, aI e_gone, aI e_steps, aI e_stepsBack, aI e_stuck, aI e_stoodFor, aI e_stepsHere, aR 18, aR 22], c18, c19, c20, c21, c22, c23, c24, c25] bc bs := by
  refine aw_aload_n K d_SE_rule_87 rfl rfl ?_
  refine aw_getf K fd_SE_20 d_SE_rule_88 rfl rfl rfl ?_
  refine aw_iload_n K d_SE_rule_91 rfl rfl ?_
  refine aw_iload_n K d_SE_rule_92 rfl rfl ?_
  refine aw_iload_n K d_SE_rule_93 rfl rfl ?_
  refine aw_less [0, 1, 2, 3] rfl ?_
  exact aw_callV K c_Mo_addRule cb_SE_78 ci_Mo_addRule cs_Mo_addRule hdd_Mo_addRule (k := 1) rfl rfl d_SE_rule_94 rfl (av := [aI l1, aI l2, aI l3]) rfl (Nat.le_of_ble_eq_true rfl) h (fun rv w' hF => hF)
set_option maxRecDepth 20000 in
theorem x_SE_rule_97 {X : am_X} {dd bc bs : Nat} (K : am_ok X b_SE_rule R_SE 4 dd) {post : Option am_V → List am_C → Prop} (hr : am_rt X (some .int) post) {s0 m_nodes m_states m_kinds m_rules e_ending e_gone e_steps e_stepsBack e_stuck e_stoodFor e_stepsHere : Int32} {m_badPairs : Int64} {c2 c3 c4 c5 c6 c7 c8 c9 c10 c11 c12 c13 c14 c15 c16 c18 c19 c20 c21 c22 c23 c24 c25 : am_C}
    (h : post (some (aI s0)) [oC 0 [aR 1, aR 9, aR 17], oC 1 [aI m_nodes, aI m_states, aI m_kinds, aI m_rules, aR 2, aR 3, aR 4, aR 5, aR 6, aR 7, aR 8, aL m_badPairs], c2, c3, c4, c5, c6, c7, c8, c9, c10, c11, c12, c13, c14, c15, c16, oC 3 [aR 1, aR 9, aI e_ending, aI e_gone, aI e_steps, aI e_stepsBack, aI e_stuck, aI e_stoodFor, aI e_stepsHere, aR 18, aR 22], c18, c19, c20, c21, c22, c23, c24, c25]) :
    AW X 97 [none, none, none, none] [aI s0] [oC 0 [aR 1, aR 9, aR 17], oC 1 [aI m_nodes, aI m_states, aI m_kinds, aI m_rules, aR 2, aR 3, aR 4, aR 5, aR 6, aR 7, aR 8, aL m_badPairs], c2, c3, c4, c5, c6, c7, c8, c9, c10, c11, c12, c13, c14, c15, c16, oC 3 [aR 1, aR 9, aI e_ending, aI e_gone, aI e_steps, aI e_stepsBack, aI e_stuck, aI e_stoodFor, aI e_stepsHere, aR 18, aR 22], c18, c19, c20, c21, c22, c23, c24, c25] bc bs := by
  exact aw_iret K hr d_SE_rule_97 h
set_option maxRecDepth 20000 in
theorem x_SE_sends_0 {X : am_X} {dd bc bs : Nat} (K : am_ok X b_SE_sends R_SE 4 dd) {post : Option am_V → List am_C → Prop} (hr : am_rt X (some .int) post) {sp_Mo_hasKind : am_S} {dd_Mo_hasKind : Nat} (c_Mo_hasKind : Con y_Mo_hasKind b_Mo_hasKind 2 (some .boolean) dd_Mo_hasKind 0 0 false sp_Mo_hasKind) (hdd_Mo_hasKind : dd_Mo_hasKind + 1 ≤ dd) {l1 l2 l3 m_nodes m_states m_kinds m_rules e_ending e_gone e_steps e_stepsBack e_stuck e_stoodFor e_stepsHere : Int32} {m_badPairs : Int64} {m_events m_sends : Nat → Int32} {c2 c4 c6 c7 c8 c9 c10 c11 c12 c13 c14 c15 c16 c18 c19 c20 c21 c22 c23 c24 c25 : am_C}
    (h : (l1 < 0 → AW X 15 [some (aR 0), some (aI l1), some (aI l2), some (aI l3)] [] [oC 0 [aR 1, aR 9, aR 17], oC 1 [aI m_nodes, aI m_states, aI m_kinds, aI m_rules, aR 2, aR 3, aR 4, aR 5, aR 6, aR 7, aR 8, aL m_badPairs], c2, iC 40 m_events, c4, iC 40 m_sends, c6, c7, c8, c9, c10, c11, c12, c13, c14, c15, c16, oC 3 [aR 1, aR 9, aI e_ending, aI e_gone, aI e_steps, aI e_stepsBack, aI e_stuck, aI e_stoodFor, aI e_stepsHere, aR 18, aR 22], c18, c19, c20, c21, c22, c23, c24, c25] bc bs) ∧ (¬ l1 < 0 → (l1 < m_rules → sp_Mo_hasKind [aR 1, aI l2] [oC 0 [aR 1, aR 9, aR 17], oC 1 [aI m_nodes, aI m_states, aI m_kinds, aI m_rules, aR 2, aR 3, aR 4, aR 5, aR 6, aR 7, aR 8, aL m_badPairs], c2, iC 40 m_events, c4, iC 40 m_sends, c6, c7, c8, c9, c10, c11, c12, c13, c14, c15, c16, oC 3 [aR 1, aR 9, aI e_ending, aI e_gone, aI e_steps, aI e_stepsBack, aI e_stuck, aI e_stoodFor, aI e_stepsHere, aR 18, aR 22], c18, c19, c20, c21, c22, c23, c24, c25] (fun rv w' => AW X 33 [some (aR 0), some (aI l1), some (aI l2), some (aI l3)] (rv.toList ++ []) w' bc bs)) ∧ (¬ l1 < m_rules → AW X 15 [some (aR 0), some (aI l1), some (aI l2), some (aI l3)] [] [oC 0 [aR 1, aR 9, aR 17], oC 1 [aI m_nodes, aI m_states, aI m_kinds, aI m_rules, aR 2, aR 3, aR 4, aR 5, aR 6, aR 7, aR 8, aL m_badPairs], c2, iC 40 m_events, c4, iC 40 m_sends, c6, c7, c8, c9, c10, c11, c12, c13, c14, c15, c16, oC 3 [aR 1, aR 9, aI e_ending, aI e_gone, aI e_steps, aI e_stepsBack, aI e_stuck, aI e_stoodFor, aI e_stepsHere, aR 18, aR 22], c18, c19, c20, c21, c22, c23, c24, c25] bc bs))) :
    AW X 0 [some (aR 0), some (aI l1), some (aI l2), some (aI l3)] [] [oC 0 [aR 1, aR 9, aR 17], oC 1 [aI m_nodes, aI m_states, aI m_kinds, aI m_rules, aR 2, aR 3, aR 4, aR 5, aR 6, aR 7, aR 8, aL m_badPairs], c2, iC 40 m_events, c4, iC 40 m_sends, c6, c7, c8, c9, c10, c11, c12, c13, c14, c15, c16, oC 3 [aR 1, aR 9, aI e_ending, aI e_gone, aI e_steps, aI e_stepsBack, aI e_stuck, aI e_stoodFor, aI e_stepsHere, aR 18, aR 22], c18, c19, c20, c21, c22, c23, c24, c25] bc bs := by
  refine aw_iload_n K d_SE_sends_0 rfl rfl ?_
  refine aw_if_lt K d_SE_sends_1 (t := 15) (by decide) rfl (fun q => ?_) (fun q => ?_)
  · replace h := h.1 q
    exact h
  · replace h := h.2 q
    refine aw_iload_n K d_SE_sends_4 rfl rfl ?_
    refine aw_aload_n K d_SE_sends_5 rfl rfl ?_
    refine aw_getf K fd_SE_20 d_SE_sends_6 rfl rfl rfl ?_
    refine aw_getf K fd_SE_73 d_SE_sends_9 rfl rfl rfl ?_
    refine aw_icmp_lt K d_SE_sends_12 (t := 25) (by decide) rfl (fun q => ?_) (fun q => ?_)
    · replace h := h.1 q
      refine aw_aload_n K d_SE_sends_25 rfl rfl ?_
      refine aw_getf K fd_SE_20 d_SE_sends_26 rfl rfl rfl ?_
      refine aw_iload_n K d_SE_sends_29 rfl rfl ?_
      exact aw_callV K c_Mo_hasKind cb_SE_68 ci_Mo_hasKind cs_Mo_hasKind hdd_Mo_hasKind (k := 1) rfl rfl d_SE_sends_30 rfl (av := [aI l2]) rfl (Nat.le_of_ble_eq_true rfl) h (fun rv w' hF => hF)
    · replace h := h.2 q
      exact h
set_option maxRecDepth 20000 in
theorem x_SE_sends_33 {X : am_X} {dd bc bs : Nat} (K : am_ok X b_SE_sends R_SE 4 dd) {post : Option am_V → List am_C → Prop} (hr : am_rt X (some .int) post) {l1 l2 l3 s0 m_nodes m_states m_kinds m_rules e_ending e_gone e_steps e_stepsBack e_stuck e_stoodFor e_stepsHere : Int32} {m_badPairs : Int64} {m_events m_sends : Nat → Int32} {c2 c4 c6 c7 c8 c9 c10 c11 c12 c13 c14 c15 c16 c18 c19 c20 c21 c22 c23 c24 c25 : am_C}
    (h : (¬ s0 = 0 → (l3 = 0 → AW X 65 [some (aR 0), some (aI l1), some (aI l2), some (aI l3)] [] [oC 0 [aR 1, aR 9, aR 17], oC 1 [aI m_nodes, aI m_states, aI m_kinds, aI m_rules, aR 2, aR 3, aR 4, aR 5, aR 6, aR 7, aR 8, aL m_badPairs], c2, iC 40 m_events, c4, iC 40 m_sends, c6, c7, c8, c9, c10, c11, c12, c13, c14, c15, c16, oC 3 [aR 1, aR 9, aI e_ending, aI e_gone, aI e_steps, aI e_stepsBack, aI e_stuck, aI e_stoodFor, aI e_stepsHere, aR 18, aR 22], c18, c19, c20, c21, c22, c23, c24, c25] bc bs) ∧ (¬ l3 = 0 → (l3 = 1 → AW X 65 [some (aR 0), some (aI l1), some (aI l2), some (aI l3)] [] [oC 0 [aR 1, aR 9, aR 17], oC 1 [aI m_nodes, aI m_states, aI m_kinds, aI m_rules, aR 2, aR 3, aR 4, aR 5, aR 6, aR 7, aR 8, aL m_badPairs], c2, iC 40 m_events, c4, iC 40 m_sends, c6, c7, c8, c9, c10, c11, c12, c13, c14, c15, c16, oC 3 [aR 1, aR 9, aI e_ending, aI e_gone, aI e_steps, aI e_stepsBack, aI e_stuck, aI e_stoodFor, aI e_stepsHere, aR 18, aR 22], c18, c19, c20, c21, c22, c23, c24, c25] bc bs) ∧ (¬ l3 = 1 → AW X 55 [some (aR 0), some (aI l1), some (aI l2), some (aI l3)] [] [oC 0 [aR 1, aR 9, aR 17], oC 1 [aI m_nodes, aI m_states, aI m_kinds, aI m_rules, aR 2, aR 3, aR 4, aR 5, aR 6, aR 7, aR 8, aL m_badPairs], c2, iC 40 m_events, c4, iC 40 m_sends, c6, c7, c8, c9, c10, c11, c12, c13, c14, c15, c16, oC 3 [aR 1, aR 9, aI e_ending, aI e_gone, aI e_steps, aI e_stepsBack, aI e_stuck, aI e_stoodFor, aI e_stepsHere, aR 18, aR 22], c18, c19, c20, c21, c22, c23, c24, c25] bc bs))) ∧ (s0 = 0 → AW X 36 [some (aR 0), some (aI l1), some (aI l2), some (aI l3)] [] [oC 0 [aR 1, aR 9, aR 17], oC 1 [aI m_nodes, aI m_states, aI m_kinds, aI m_rules, aR 2, aR 3, aR 4, aR 5, aR 6, aR 7, aR 8, aL m_badPairs], c2, iC 40 m_events, c4, iC 40 m_sends, c6, c7, c8, c9, c10, c11, c12, c13, c14, c15, c16, oC 3 [aR 1, aR 9, aI e_ending, aI e_gone, aI e_steps, aI e_stepsBack, aI e_stuck, aI e_stoodFor, aI e_stepsHere, aR 18, aR 22], c18, c19, c20, c21, c22, c23, c24, c25] bc bs)) :
    AW X 33 [some (aR 0), some (aI l1), some (aI l2), some (aI l3)] [aI s0] [oC 0 [aR 1, aR 9, aR 17], oC 1 [aI m_nodes, aI m_states, aI m_kinds, aI m_rules, aR 2, aR 3, aR 4, aR 5, aR 6, aR 7, aR 8, aL m_badPairs], c2, iC 40 m_events, c4, iC 40 m_sends, c6, c7, c8, c9, c10, c11, c12, c13, c14, c15, c16, oC 3 [aR 1, aR 9, aI e_ending, aI e_gone, aI e_steps, aI e_stepsBack, aI e_stuck, aI e_stoodFor, aI e_stepsHere, aR 18, aR 22], c18, c19, c20, c21, c22, c23, c24, c25] bc bs := by
  refine aw_if_ne K d_SE_sends_33 (t := 46) (by decide) rfl (fun q => ?_) (fun q => ?_)
  · replace h := h.1 q
    refine aw_iload_n K d_SE_sends_46 rfl rfl ?_
    refine aw_if_eq K d_SE_sends_47 (t := 65) (by decide) rfl (fun q => ?_) (fun q => ?_)
    · replace h := h.1 q
      exact h
    · replace h := h.2 q
      refine aw_iload_n K d_SE_sends_50 rfl rfl ?_
      refine aw_iconst K d_SE_sends_51 rfl (v := 1) (by decide) ?_
      refine aw_icmp_eq K d_SE_sends_52 (t := 65) (by decide) rfl (fun q => ?_) (fun q => ?_)
      · replace h := h.1 q
        exact h
      · replace h := h.2 q
        exact h
  · replace h := h.2 q
    exact h
set_option maxRecDepth 20000 in
theorem x_SE_sends_65 {X : am_X} {dd bc bs : Nat} (K : am_ok X b_SE_sends R_SE 4 dd) {post : Option am_V → List am_C → Prop} (hr : am_rt X (some .int) post) {l1 l2 l3 m_nodes m_states m_kinds m_rules e_ending e_gone e_steps e_stepsBack e_stuck e_stoodFor e_stepsHere : Int32} {m_badPairs : Int64} {m_events m_sends : Nat → Int32} {c2 c4 c6 c7 c8 c9 c10 c11 c12 c13 c14 c15 c16 c18 c19 c20 c21 c22 c23 c24 c25 : am_C}
    (h : (¬ l3 = 0 → AW X 92 [some (aR 0), some (aI l1), some (aI l2), some (aI l3)] [] [oC 0 [aR 1, aR 9, aR 17], oC 1 [aI m_nodes, aI m_states, aI m_kinds, aI m_rules, aR 2, aR 3, aR 4, aR 5, aR 6, aR 7, aR 8, aL m_badPairs], c2, iC 40 m_events, c4, iC 40 m_sends, c6, c7, c8, c9, c10, c11, c12, c13, c14, c15, c16, oC 3 [aR 1, aR 9, aI e_ending, aI e_gone, aI e_steps, aI e_stepsBack, aI e_stuck, aI e_stoodFor, aI e_stepsHere, aR 18, aR 22], c18, c19, c20, c21, c22, c23, c24, c25] bc bs) ∧ (l3 = 0 → vp_in l1 40 ∧ (¬ (m_events l1.toNatClampNeg) = ((-1)) → AW X 92 [some (aR 0), some (aI l1), some (aI l2), some (aI l3)] [] [oC 0 [aR 1, aR 9, aR 17], oC 1 [aI m_nodes, aI m_states, aI m_kinds, aI m_rules, aR 2, aR 3, aR 4, aR 5, aR 6, aR 7, aR 8, aL m_badPairs], c2, iC 40 m_events, c4, iC 40 m_sends, c6, c7, c8, c9, c10, c11, c12, c13, c14, c15, c16, oC 3 [aR 1, aR 9, aI e_ending, aI e_gone, aI e_steps, aI e_stepsBack, aI e_stuck, aI e_stoodFor, aI e_stepsHere, aR 18, aR 22], c18, c19, c20, c21, c22, c23, c24, c25] bc bs) ∧ ((m_events l1.toNatClampNeg) = ((-1)) → AW X 82 [some (aR 0), some (aI l1), some (aI l2), some (aI l3)] [] [oC 0 [aR 1, aR 9, aR 17], oC 1 [aI m_nodes, aI m_states, aI m_kinds, aI m_rules, aR 2, aR 3, aR 4, aR 5, aR 6, aR 7, aR 8, aL m_badPairs], c2, iC 40 m_events, c4, iC 40 m_sends, c6, c7, c8, c9, c10, c11, c12, c13, c14, c15, c16, oC 3 [aR 1, aR 9, aI e_ending, aI e_gone, aI e_steps, aI e_stepsBack, aI e_stuck, aI e_stoodFor, aI e_stepsHere, aR 18, aR 22], c18, c19, c20, c21, c22, c23, c24, c25] bc bs))) :
    AW X 65 [some (aR 0), some (aI l1), some (aI l2), some (aI l3)] [] [oC 0 [aR 1, aR 9, aR 17], oC 1 [aI m_nodes, aI m_states, aI m_kinds, aI m_rules, aR 2, aR 3, aR 4, aR 5, aR 6, aR 7, aR 8, aL m_badPairs], c2, iC 40 m_events, c4, iC 40 m_sends, c6, c7, c8, c9, c10, c11, c12, c13, c14, c15, c16, oC 3 [aR 1, aR 9, aI e_ending, aI e_gone, aI e_steps, aI e_stepsBack, aI e_stuck, aI e_stoodFor, aI e_stepsHere, aR 18, aR 22], c18, c19, c20, c21, c22, c23, c24, c25] bc bs := by
  refine aw_iload_n K d_SE_sends_65 rfl rfl ?_
  refine aw_if_ne K d_SE_sends_66 (t := 92) (by decide) rfl (fun q => ?_) (fun q => ?_)
  · replace h := h.1 q
    exact h
  · replace h := h.2 q
    refine aw_aload_n K d_SE_sends_69 rfl rfl ?_
    refine aw_getf K fd_SE_20 d_SE_sends_70 rfl rfl rfl ?_
    refine aw_getf K fd_SE_86 d_SE_sends_73 rfl rfl rfl ?_
    refine aw_iload_n K d_SE_sends_76 rfl rfl ?_
    refine aw_iald K d_SE_sends_77 rfl rfl h.1 ?_
    replace h := h.2
    refine aw_iconst K d_SE_sends_78 rfl (v := (-1)) (by decide) ?_
    refine aw_icmp_ne K d_SE_sends_79 (t := 92) (by decide) rfl (fun q => ?_) (fun q => ?_)
    · replace h := h.1 q
      exact h
    · replace h := h.2 q
      exact h
set_option maxRecDepth 20000 in
theorem x_SE_sends_92 {X : am_X} {dd bc bs : Nat} (K : am_ok X b_SE_sends R_SE 4 dd) {post : Option am_V → List am_C → Prop} (hr : am_rt X (some .int) post) {sp_Ex_forget : am_S} {dd_Ex_forget : Nat} (c_Ex_forget : Con y_Ex_forget b_Ex_forget 1 none dd_Ex_forget 0 0 false sp_Ex_forget) (hdd_Ex_forget : dd_Ex_forget + 1 ≤ dd) {l1 l2 l3 m_nodes m_states m_kinds m_rules e_ending e_gone e_steps e_stepsBack e_stuck e_stoodFor e_stepsHere : Int32} {m_badPairs : Int64} {m_events m_sends : Nat → Int32} {c2 c4 c6 c7 c8 c9 c10 c11 c12 c13 c14 c15 c16 c18 c19 c20 c21 c22 c23 c24 c25 : am_C}
    (h : vp_in l1 40 ∧ ((m_sends l1.toNatClampNeg) < 4 → sp_Ex_forget [aR 17] [oC 0 [aR 1, aR 9, aR 17], oC 1 [aI m_nodes, aI m_states, aI m_kinds, aI m_rules, aR 2, aR 3, aR 4, aR 5, aR 6, aR 7, aR 8, aL m_badPairs], c2, iC 40 m_events, c4, iC 40 m_sends, c6, c7, c8, c9, c10, c11, c12, c13, c14, c15, c16, oC 3 [aR 1, aR 9, aI e_ending, aI e_gone, aI e_steps, aI e_stepsBack, aI e_stuck, aI e_stoodFor, aI e_stepsHere, aR 18, aR 22], c18, c19, c20, c21, c22, c23, c24, c25] (fun rv w' => AW X 122 [some (aR 0), some (aI l1), some (aI l2), some (aI l3)] (rv.toList ++ []) w' bc bs)) ∧ (¬ (m_sends l1.toNatClampNeg) < 4 → AW X 105 [some (aR 0), some (aI l1), some (aI l2), some (aI l3)] [] [oC 0 [aR 1, aR 9, aR 17], oC 1 [aI m_nodes, aI m_states, aI m_kinds, aI m_rules, aR 2, aR 3, aR 4, aR 5, aR 6, aR 7, aR 8, aL m_badPairs], c2, iC 40 m_events, c4, iC 40 m_sends, c6, c7, c8, c9, c10, c11, c12, c13, c14, c15, c16, oC 3 [aR 1, aR 9, aI e_ending, aI e_gone, aI e_steps, aI e_stepsBack, aI e_stuck, aI e_stoodFor, aI e_stepsHere, aR 18, aR 22], c18, c19, c20, c21, c22, c23, c24, c25] bc bs)) :
    AW X 92 [some (aR 0), some (aI l1), some (aI l2), some (aI l3)] [] [oC 0 [aR 1, aR 9, aR 17], oC 1 [aI m_nodes, aI m_states, aI m_kinds, aI m_rules, aR 2, aR 3, aR 4, aR 5, aR 6, aR 7, aR 8, aL m_badPairs], c2, iC 40 m_events, c4, iC 40 m_sends, c6, c7, c8, c9, c10, c11, c12, c13, c14, c15, c16, oC 3 [aR 1, aR 9, aI e_ending, aI e_gone, aI e_steps, aI e_stepsBack, aI e_stuck, aI e_stoodFor, aI e_stepsHere, aR 18, aR 22], c18, c19, c20, c21, c22, c23, c24, c25] bc bs := by
  refine aw_aload_n K d_SE_sends_92 rfl rfl ?_
  refine aw_getf K fd_SE_20 d_SE_sends_93 rfl rfl rfl ?_
  refine aw_getf K fd_SE_92 d_SE_sends_96 rfl rfl rfl ?_
  refine aw_iload_n K d_SE_sends_99 rfl rfl ?_
  refine aw_iald K d_SE_sends_100 rfl rfl h.1 ?_
  replace h := h.2
  refine aw_iconst K d_SE_sends_101 rfl (v := 4) (by decide) ?_
  refine aw_icmp_lt K d_SE_sends_102 (t := 115) (by decide) rfl (fun q => ?_) (fun q => ?_)
  · replace h := h.1 q
    refine aw_aload_n K d_SE_sends_115 rfl rfl ?_
    refine aw_getf K fd_SE_36 d_SE_sends_116 rfl rfl rfl ?_
    exact aw_callV K c_Ex_forget cb_SE_51 ci_Ex_forget cs_Ex_forget hdd_Ex_forget (k := 17) rfl rfl d_SE_sends_119 rfl (av := []) rfl (Nat.le_of_ble_eq_true rfl) h (fun rv w' hF => hF)
  · replace h := h.2 q
    exact h
set_option maxRecDepth 20000 in
theorem x_SE_sends_122 {X : am_X} {dd bc bs : Nat} (K : am_ok X b_SE_sends R_SE 4 dd) {post : Option am_V → List am_C → Prop} (hr : am_rt X (some .int) post) {sp_Mo_addSend : am_S} {dd_Mo_addSend : Nat} (c_Mo_addSend : Con y_Mo_addSend b_Mo_addSend 5 (some .int) dd_Mo_addSend 0 0 false sp_Mo_addSend) (hdd_Mo_addSend : dd_Mo_addSend + 1 ≤ dd) {l1 l2 l3 m_nodes m_states m_kinds m_rules e_ending e_gone e_steps e_stepsBack e_stuck e_stoodFor e_stepsHere : Int32} {m_badPairs : Int64} {m_events m_sends : Nat → Int32} {c2 c4 c6 c7 c8 c9 c10 c11 c12 c13 c14 c15 c16 c18 c19 c20 c21 c22 c23 c24 c25 : am_C}
    (h : sp_Mo_addSend [aR 1, aI l1, aI l2, aI l3] [oC 0 [aR 1, aR 9, aR 17], oC 1 [aI m_nodes, aI m_states, aI m_kinds, aI m_rules, aR 2, aR 3, aR 4, aR 5, aR 6, aR 7, aR 8, aL m_badPairs], c2, iC 40 m_events, c4, iC 40 m_sends, c6, c7, c8, c9, c10, c11, c12, c13, c14, c15, c16, oC 3 [aR 1, aR 9, aI e_ending, aI e_gone, aI e_steps, aI e_stepsBack, aI e_stuck, aI e_stoodFor, aI e_stepsHere, aR 18, aR 22], c18, c19, c20, c21, c22, c23, c24, c25] (fun rv w' => AW X 132 [none, none, none, none] (rv.toList ++ []) w' bc bs)) :
    AW X 122 [some (aR 0), some (aI l1), some (aI l2), some (aI l3)] [] [oC 0 [aR 1, aR 9, aR 17], oC 1 [aI m_nodes, aI m_states, aI m_kinds, aI m_rules, aR 2, aR 3, aR 4, aR 5, aR 6, aR 7, aR 8, aL m_badPairs], c2, iC 40 m_events, c4, iC 40 m_sends, c6, c7, c8, c9, c10, c11, c12, c13, c14, c15, c16, oC 3 [aR 1, aR 9, aI e_ending, aI e_gone, aI e_steps, aI e_stepsBack, aI e_stuck, aI e_stoodFor, aI e_stepsHere, aR 18, aR 22], c18, c19, c20, c21, c22, c23, c24, c25] bc bs := by
  refine aw_aload_n K d_SE_sends_122 rfl rfl ?_
  refine aw_getf K fd_SE_20 d_SE_sends_123 rfl rfl rfl ?_
  refine aw_iload_n K d_SE_sends_126 rfl rfl ?_
  refine aw_iload_n K d_SE_sends_127 rfl rfl ?_
  refine aw_iload_n K d_SE_sends_128 rfl rfl ?_
  refine aw_less [0, 1, 2, 3] rfl ?_
  exact aw_callV K c_Mo_addSend cb_SE_97 ci_Mo_addSend cs_Mo_addSend hdd_Mo_addSend (k := 1) rfl rfl d_SE_sends_129 rfl (av := [aI l1, aI l2, aI l3]) rfl (Nat.le_of_ble_eq_true rfl) h (fun rv w' hF => hF)
set_option maxRecDepth 20000 in
theorem x_SE_sends_132 {X : am_X} {dd bc bs : Nat} (K : am_ok X b_SE_sends R_SE 4 dd) {post : Option am_V → List am_C → Prop} (hr : am_rt X (some .int) post) {s0 m_nodes m_states m_kinds m_rules e_ending e_gone e_steps e_stepsBack e_stuck e_stoodFor e_stepsHere : Int32} {m_badPairs : Int64} {m_events m_sends : Nat → Int32} {c2 c4 c6 c7 c8 c9 c10 c11 c12 c13 c14 c15 c16 c18 c19 c20 c21 c22 c23 c24 c25 : am_C}
    (h : post (some (aI s0)) [oC 0 [aR 1, aR 9, aR 17], oC 1 [aI m_nodes, aI m_states, aI m_kinds, aI m_rules, aR 2, aR 3, aR 4, aR 5, aR 6, aR 7, aR 8, aL m_badPairs], c2, iC 40 m_events, c4, iC 40 m_sends, c6, c7, c8, c9, c10, c11, c12, c13, c14, c15, c16, oC 3 [aR 1, aR 9, aI e_ending, aI e_gone, aI e_steps, aI e_stepsBack, aI e_stuck, aI e_stoodFor, aI e_stepsHere, aR 18, aR 22], c18, c19, c20, c21, c22, c23, c24, c25]) :
    AW X 132 [none, none, none, none] [aI s0] [oC 0 [aR 1, aR 9, aR 17], oC 1 [aI m_nodes, aI m_states, aI m_kinds, aI m_rules, aR 2, aR 3, aR 4, aR 5, aR 6, aR 7, aR 8, aL m_badPairs], c2, iC 40 m_events, c4, iC 40 m_sends, c6, c7, c8, c9, c10, c11, c12, c13, c14, c15, c16, oC 3 [aR 1, aR 9, aI e_ending, aI e_gone, aI e_steps, aI e_stepsBack, aI e_stuck, aI e_stoodFor, aI e_stepsHere, aR 18, aR 22], c18, c19, c20, c21, c22, c23, c24, c25] bc bs := by
  exact aw_iret K hr d_SE_sends_132 h
set_option maxRecDepth 20000 in
theorem x_SE_bad_0 {X : am_X} {dd bc bs : Nat} (K : am_ok X b_SE_bad R_SE 3 dd) {post : Option am_V → List am_C → Prop} (hr : am_rt X (some .boolean) post) {sp_Mo_hasState : am_S} {dd_Mo_hasState : Nat} (c_Mo_hasState : Con y_Mo_hasState b_Mo_hasState 2 (some .boolean) dd_Mo_hasState 0 0 false sp_Mo_hasState) (hdd_Mo_hasState : dd_Mo_hasState + 1 ≤ dd) {l1 l2 m_nodes m_states m_kinds m_rules e_ending e_gone e_steps e_stepsBack e_stuck e_stoodFor e_stepsHere : Int32} {m_badPairs : Int64} {c2 c3 c4 c5 c6 c7 c8 c9 c10 c11 c12 c13 c14 c15 c16 c18 c19 c20 c21 c22 c23 c24 c25 : am_C}
    (h : sp_Mo_hasState [aR 1, aI l1] [oC 0 [aR 1, aR 9, aR 17], oC 1 [aI m_nodes, aI m_states, aI m_kinds, aI m_rules, aR 2, aR 3, aR 4, aR 5, aR 6, aR 7, aR 8, aL m_badPairs], c2, c3, c4, c5, c6, c7, c8, c9, c10, c11, c12, c13, c14, c15, c16, oC 3 [aR 1, aR 9, aI e_ending, aI e_gone, aI e_steps, aI e_stepsBack, aI e_stuck, aI e_stoodFor, aI e_stepsHere, aR 18, aR 22], c18, c19, c20, c21, c22, c23, c24, c25] (fun rv w' => AW X 8 [some (aR 0), some (aI l1), some (aI l2)] (rv.toList ++ []) w' bc bs)) :
    AW X 0 [some (aR 0), some (aI l1), some (aI l2)] [] [oC 0 [aR 1, aR 9, aR 17], oC 1 [aI m_nodes, aI m_states, aI m_kinds, aI m_rules, aR 2, aR 3, aR 4, aR 5, aR 6, aR 7, aR 8, aL m_badPairs], c2, c3, c4, c5, c6, c7, c8, c9, c10, c11, c12, c13, c14, c15, c16, oC 3 [aR 1, aR 9, aI e_ending, aI e_gone, aI e_steps, aI e_stepsBack, aI e_stuck, aI e_stoodFor, aI e_stepsHere, aR 18, aR 22], c18, c19, c20, c21, c22, c23, c24, c25] bc bs := by
  refine aw_aload_n K d_SE_bad_0 rfl rfl ?_
  refine aw_getf K fd_SE_20 d_SE_bad_1 rfl rfl rfl ?_
  refine aw_iload_n K d_SE_bad_4 rfl rfl ?_
  exact aw_callV K c_Mo_hasState cb_SE_59 ci_Mo_hasState cs_Mo_hasState hdd_Mo_hasState (k := 1) rfl rfl d_SE_bad_5 rfl (av := [aI l1]) rfl (Nat.le_of_ble_eq_true rfl) h (fun rv w' hF => hF)
set_option maxRecDepth 20000 in
theorem x_SE_bad_8 {X : am_X} {dd bc bs : Nat} (K : am_ok X b_SE_bad R_SE 3 dd) {post : Option am_V → List am_C → Prop} (hr : am_rt X (some .boolean) post) {sp_Mo_hasState : am_S} {dd_Mo_hasState : Nat} (c_Mo_hasState : Con y_Mo_hasState b_Mo_hasState 2 (some .boolean) dd_Mo_hasState 0 0 false sp_Mo_hasState) (hdd_Mo_hasState : dd_Mo_hasState + 1 ≤ dd) {l1 l2 s0 m_nodes m_states m_kinds m_rules e_ending e_gone e_steps e_stepsBack e_stuck e_stoodFor e_stepsHere : Int32} {m_badPairs : Int64} {c2 c3 c4 c5 c6 c7 c8 c9 c10 c11 c12 c13 c14 c15 c16 c18 c19 c20 c21 c22 c23 c24 c25 : am_C}
    (h : (s0 = 0 → AW X 22 [some (aR 0), some (aI l1), some (aI l2)] [] [oC 0 [aR 1, aR 9, aR 17], oC 1 [aI m_nodes, aI m_states, aI m_kinds, aI m_rules, aR 2, aR 3, aR 4, aR 5, aR 6, aR 7, aR 8, aL m_badPairs], c2, c3, c4, c5, c6, c7, c8, c9, c10, c11, c12, c13, c14, c15, c16, oC 3 [aR 1, aR 9, aI e_ending, aI e_gone, aI e_steps, aI e_stepsBack, aI e_stuck, aI e_stoodFor, aI e_stepsHere, aR 18, aR 22], c18, c19, c20, c21, c22, c23, c24, c25] bc bs) ∧ (¬ s0 = 0 → sp_Mo_hasState [aR 1, aI l2] [oC 0 [aR 1, aR 9, aR 17], oC 1 [aI m_nodes, aI m_states, aI m_kinds, aI m_rules, aR 2, aR 3, aR 4, aR 5, aR 6, aR 7, aR 8, aL m_badPairs], c2, c3, c4, c5, c6, c7, c8, c9, c10, c11, c12, c13, c14, c15, c16, oC 3 [aR 1, aR 9, aI e_ending, aI e_gone, aI e_steps, aI e_stepsBack, aI e_stuck, aI e_stoodFor, aI e_stepsHere, aR 18, aR 22], c18, c19, c20, c21, c22, c23, c24, c25] (fun rv w' => AW X 19 [some (aR 0), some (aI l1), some (aI l2)] (rv.toList ++ []) w' bc bs))) :
    AW X 8 [some (aR 0), some (aI l1), some (aI l2)] [aI s0] [oC 0 [aR 1, aR 9, aR 17], oC 1 [aI m_nodes, aI m_states, aI m_kinds, aI m_rules, aR 2, aR 3, aR 4, aR 5, aR 6, aR 7, aR 8, aL m_badPairs], c2, c3, c4, c5, c6, c7, c8, c9, c10, c11, c12, c13, c14, c15, c16, oC 3 [aR 1, aR 9, aI e_ending, aI e_gone, aI e_steps, aI e_stepsBack, aI e_stuck, aI e_stoodFor, aI e_stepsHere, aR 18, aR 22], c18, c19, c20, c21, c22, c23, c24, c25] bc bs := by
  refine aw_if_eq K d_SE_bad_8 (t := 22) (by decide) rfl (fun q => ?_) (fun q => ?_)
  · replace h := h.1 q
    exact h
  · replace h := h.2 q
    refine aw_aload_n K d_SE_bad_11 rfl rfl ?_
    refine aw_getf K fd_SE_20 d_SE_bad_12 rfl rfl rfl ?_
    refine aw_iload_n K d_SE_bad_15 rfl rfl ?_
    exact aw_callV K c_Mo_hasState cb_SE_59 ci_Mo_hasState cs_Mo_hasState hdd_Mo_hasState (k := 1) rfl rfl d_SE_bad_16 rfl (av := [aI l2]) rfl (Nat.le_of_ble_eq_true rfl) h (fun rv w' hF => hF)
set_option maxRecDepth 20000 in
theorem x_SE_bad_19 {X : am_X} {dd bc bs : Nat} (K : am_ok X b_SE_bad R_SE 3 dd) {post : Option am_V → List am_C → Prop} (hr : am_rt X (some .boolean) post) {sp_Mo_isBadPair : am_S} {dd_Mo_isBadPair : Nat} (c_Mo_isBadPair : Con y_Mo_isBadPair b_Mo_isBadPair 3 (some .boolean) dd_Mo_isBadPair 0 0 false sp_Mo_isBadPair) (hdd_Mo_isBadPair : dd_Mo_isBadPair + 1 ≤ dd) {l1 l2 s0 m_nodes m_states m_kinds m_rules e_ending e_gone e_steps e_stepsBack e_stuck e_stoodFor e_stepsHere : Int32} {m_badPairs : Int64} {c2 c3 c4 c5 c6 c7 c8 c9 c10 c11 c12 c13 c14 c15 c16 c18 c19 c20 c21 c22 c23 c24 c25 : am_C}
    (h : (¬ s0 = 0 → sp_Mo_isBadPair [aR 1, aI l1, aI l2] [oC 0 [aR 1, aR 9, aR 17], oC 1 [aI m_nodes, aI m_states, aI m_kinds, aI m_rules, aR 2, aR 3, aR 4, aR 5, aR 6, aR 7, aR 8, aL m_badPairs], c2, c3, c4, c5, c6, c7, c8, c9, c10, c11, c12, c13, c14, c15, c16, oC 3 [aR 1, aR 9, aI e_ending, aI e_gone, aI e_steps, aI e_stepsBack, aI e_stuck, aI e_stoodFor, aI e_stepsHere, aR 18, aR 22], c18, c19, c20, c21, c22, c23, c24, c25] (fun rv w' => AW X 41 [some (aR 0), some (aI l1), some (aI l2)] (rv.toList ++ []) w' bc bs)) ∧ (s0 = 0 → AW X 22 [some (aR 0), some (aI l1), some (aI l2)] [] [oC 0 [aR 1, aR 9, aR 17], oC 1 [aI m_nodes, aI m_states, aI m_kinds, aI m_rules, aR 2, aR 3, aR 4, aR 5, aR 6, aR 7, aR 8, aL m_badPairs], c2, c3, c4, c5, c6, c7, c8, c9, c10, c11, c12, c13, c14, c15, c16, oC 3 [aR 1, aR 9, aI e_ending, aI e_gone, aI e_steps, aI e_stepsBack, aI e_stuck, aI e_stoodFor, aI e_stepsHere, aR 18, aR 22], c18, c19, c20, c21, c22, c23, c24, c25] bc bs)) :
    AW X 19 [some (aR 0), some (aI l1), some (aI l2)] [aI s0] [oC 0 [aR 1, aR 9, aR 17], oC 1 [aI m_nodes, aI m_states, aI m_kinds, aI m_rules, aR 2, aR 3, aR 4, aR 5, aR 6, aR 7, aR 8, aL m_badPairs], c2, c3, c4, c5, c6, c7, c8, c9, c10, c11, c12, c13, c14, c15, c16, oC 3 [aR 1, aR 9, aI e_ending, aI e_gone, aI e_steps, aI e_stepsBack, aI e_stuck, aI e_stoodFor, aI e_stepsHere, aR 18, aR 22], c18, c19, c20, c21, c22, c23, c24, c25] bc bs := by
  refine aw_if_ne K d_SE_bad_19 (t := 32) (by decide) rfl (fun q => ?_) (fun q => ?_)
  · replace h := h.1 q
    refine aw_aload_n K d_SE_bad_32 rfl rfl ?_
    refine aw_getf K fd_SE_20 d_SE_bad_33 rfl rfl rfl ?_
    refine aw_iload_n K d_SE_bad_36 rfl rfl ?_
    refine aw_iload_n K d_SE_bad_37 rfl rfl ?_
    exact aw_callV K c_Mo_isBadPair cb_SE_100 ci_Mo_isBadPair cs_Mo_isBadPair hdd_Mo_isBadPair (k := 1) rfl rfl d_SE_bad_38 rfl (av := [aI l1, aI l2]) rfl (Nat.le_of_ble_eq_true rfl) h (fun rv w' hF => hF)
  · replace h := h.2 q
    exact h
set_option maxRecDepth 20000 in
theorem x_SE_bad_41 {X : am_X} {dd bc bs : Nat} (K : am_ok X b_SE_bad R_SE 3 dd) {post : Option am_V → List am_C → Prop} (hr : am_rt X (some .boolean) post) {sp_Ex_forget : am_S} {dd_Ex_forget : Nat} (c_Ex_forget : Con y_Ex_forget b_Ex_forget 1 none dd_Ex_forget 0 0 false sp_Ex_forget) (hdd_Ex_forget : dd_Ex_forget + 1 ≤ dd) {l1 l2 s0 m_nodes m_states m_kinds m_rules e_ending e_gone e_steps e_stepsBack e_stuck e_stoodFor e_stepsHere : Int32} {m_badPairs : Int64} {c2 c3 c4 c5 c6 c7 c8 c9 c10 c11 c12 c13 c14 c15 c16 c18 c19 c20 c21 c22 c23 c24 c25 : am_C}
    (h : (s0 = 0 → sp_Ex_forget [aR 17] [oC 0 [aR 1, aR 9, aR 17], oC 1 [aI m_nodes, aI m_states, aI m_kinds, aI m_rules, aR 2, aR 3, aR 4, aR 5, aR 6, aR 7, aR 8, aL m_badPairs], c2, c3, c4, c5, c6, c7, c8, c9, c10, c11, c12, c13, c14, c15, c16, oC 3 [aR 1, aR 9, aI e_ending, aI e_gone, aI e_steps, aI e_stepsBack, aI e_stuck, aI e_stoodFor, aI e_stepsHere, aR 18, aR 22], c18, c19, c20, c21, c22, c23, c24, c25] (fun rv w' => AW X 53 [some (aR 0), some (aI l1), some (aI l2)] (rv.toList ++ []) w' bc bs)) ∧ (¬ s0 = 0 → post (some (aI 0)) [oC 0 [aR 1, aR 9, aR 17], oC 1 [aI m_nodes, aI m_states, aI m_kinds, aI m_rules, aR 2, aR 3, aR 4, aR 5, aR 6, aR 7, aR 8, aL m_badPairs], c2, c3, c4, c5, c6, c7, c8, c9, c10, c11, c12, c13, c14, c15, c16, oC 3 [aR 1, aR 9, aI e_ending, aI e_gone, aI e_steps, aI e_stepsBack, aI e_stuck, aI e_stoodFor, aI e_stepsHere, aR 18, aR 22], c18, c19, c20, c21, c22, c23, c24, c25])) :
    AW X 41 [some (aR 0), some (aI l1), some (aI l2)] [aI s0] [oC 0 [aR 1, aR 9, aR 17], oC 1 [aI m_nodes, aI m_states, aI m_kinds, aI m_rules, aR 2, aR 3, aR 4, aR 5, aR 6, aR 7, aR 8, aL m_badPairs], c2, c3, c4, c5, c6, c7, c8, c9, c10, c11, c12, c13, c14, c15, c16, oC 3 [aR 1, aR 9, aI e_ending, aI e_gone, aI e_steps, aI e_stepsBack, aI e_stuck, aI e_stoodFor, aI e_stepsHere, aR 18, aR 22], c18, c19, c20, c21, c22, c23, c24, c25] bc bs := by
  refine aw_if_eq K d_SE_bad_41 (t := 46) (by decide) rfl (fun q => ?_) (fun q => ?_)
  · replace h := h.1 q
    refine aw_aload_n K d_SE_bad_46 rfl rfl ?_
    refine aw_getf K fd_SE_36 d_SE_bad_47 rfl rfl rfl ?_
    exact aw_callV K c_Ex_forget cb_SE_51 ci_Ex_forget cs_Ex_forget hdd_Ex_forget (k := 17) rfl rfl d_SE_bad_50 rfl (av := []) rfl (Nat.le_of_ble_eq_true rfl) h (fun rv w' hF => hF)
  · replace h := h.2 q
    refine aw_iconst K d_SE_bad_44 rfl (v := 0) (by decide) ?_
    exact aw_zret K hr d_SE_bad_45 (Or.inl rfl) h
set_option maxRecDepth 20000 in
theorem x_SE_bad_53 {X : am_X} {dd bc bs : Nat} (K : am_ok X b_SE_bad R_SE 3 dd) {post : Option am_V → List am_C → Prop} (hr : am_rt X (some .boolean) post) {sp_Mo_addBadPair : am_S} {dd_Mo_addBadPair : Nat} (c_Mo_addBadPair : Con y_Mo_addBadPair b_Mo_addBadPair 3 none dd_Mo_addBadPair 0 0 false sp_Mo_addBadPair) (hdd_Mo_addBadPair : dd_Mo_addBadPair + 1 ≤ dd) {l1 l2 m_nodes m_states m_kinds m_rules e_ending e_gone e_steps e_stepsBack e_stuck e_stoodFor e_stepsHere : Int32} {m_badPairs : Int64} {c2 c3 c4 c5 c6 c7 c8 c9 c10 c11 c12 c13 c14 c15 c16 c18 c19 c20 c21 c22 c23 c24 c25 : am_C}
    (h : sp_Mo_addBadPair [aR 1, aI l1, aI l2] [oC 0 [aR 1, aR 9, aR 17], oC 1 [aI m_nodes, aI m_states, aI m_kinds, aI m_rules, aR 2, aR 3, aR 4, aR 5, aR 6, aR 7, aR 8, aL m_badPairs], c2, c3, c4, c5, c6, c7, c8, c9, c10, c11, c12, c13, c14, c15, c16, oC 3 [aR 1, aR 9, aI e_ending, aI e_gone, aI e_steps, aI e_stepsBack, aI e_stuck, aI e_stoodFor, aI e_stepsHere, aR 18, aR 22], c18, c19, c20, c21, c22, c23, c24, c25] (fun rv w' => AW X 62 [none, none, none] (rv.toList ++ []) w' bc bs)) :
    AW X 53 [some (aR 0), some (aI l1), some (aI l2)] [] [oC 0 [aR 1, aR 9, aR 17], oC 1 [aI m_nodes, aI m_states, aI m_kinds, aI m_rules, aR 2, aR 3, aR 4, aR 5, aR 6, aR 7, aR 8, aL m_badPairs], c2, c3, c4, c5, c6, c7, c8, c9, c10, c11, c12, c13, c14, c15, c16, oC 3 [aR 1, aR 9, aI e_ending, aI e_gone, aI e_steps, aI e_stepsBack, aI e_stuck, aI e_stoodFor, aI e_stepsHere, aR 18, aR 22], c18, c19, c20, c21, c22, c23, c24, c25] bc bs := by
  refine aw_aload_n K d_SE_bad_53 rfl rfl ?_
  refine aw_getf K fd_SE_20 d_SE_bad_54 rfl rfl rfl ?_
  refine aw_iload_n K d_SE_bad_57 rfl rfl ?_
  refine aw_iload_n K d_SE_bad_58 rfl rfl ?_
  refine aw_less [0, 1, 2] rfl ?_
  exact aw_callV K c_Mo_addBadPair cb_SE_104 ci_Mo_addBadPair cs_Mo_addBadPair hdd_Mo_addBadPair (k := 1) rfl rfl d_SE_bad_59 rfl (av := [aI l1, aI l2]) rfl (Nat.le_of_ble_eq_true rfl) h (fun rv w' hF => hF)
set_option maxRecDepth 20000 in
theorem x_SE_bad_62 {X : am_X} {dd bc bs : Nat} (K : am_ok X b_SE_bad R_SE 3 dd) {post : Option am_V → List am_C → Prop} (hr : am_rt X (some .boolean) post) {m_nodes m_states m_kinds m_rules e_ending e_gone e_steps e_stepsBack e_stuck e_stoodFor e_stepsHere : Int32} {m_badPairs : Int64} {c2 c3 c4 c5 c6 c7 c8 c9 c10 c11 c12 c13 c14 c15 c16 c18 c19 c20 c21 c22 c23 c24 c25 : am_C}
    (h : post (some (aI 1)) [oC 0 [aR 1, aR 9, aR 17], oC 1 [aI m_nodes, aI m_states, aI m_kinds, aI m_rules, aR 2, aR 3, aR 4, aR 5, aR 6, aR 7, aR 8, aL m_badPairs], c2, c3, c4, c5, c6, c7, c8, c9, c10, c11, c12, c13, c14, c15, c16, oC 3 [aR 1, aR 9, aI e_ending, aI e_gone, aI e_steps, aI e_stepsBack, aI e_stuck, aI e_stoodFor, aI e_stepsHere, aR 18, aR 22], c18, c19, c20, c21, c22, c23, c24, c25]) :
    AW X 62 [none, none, none] [] [oC 0 [aR 1, aR 9, aR 17], oC 1 [aI m_nodes, aI m_states, aI m_kinds, aI m_rules, aR 2, aR 3, aR 4, aR 5, aR 6, aR 7, aR 8, aL m_badPairs], c2, c3, c4, c5, c6, c7, c8, c9, c10, c11, c12, c13, c14, c15, c16, oC 3 [aR 1, aR 9, aI e_ending, aI e_gone, aI e_steps, aI e_stepsBack, aI e_stuck, aI e_stoodFor, aI e_stepsHere, aR 18, aR 22], c18, c19, c20, c21, c22, c23, c24, c25] bc bs := by
  refine aw_iconst K d_SE_bad_62 rfl (v := 1) (by decide) ?_
  exact aw_zret K hr d_SE_bad_63 (Or.inr rfl) h
set_option maxRecDepth 20000 in
theorem x_SE_go_0 {X : am_X} {dd bc bs : Nat} (K : am_ok X b_SE_go R_SE 2 dd) {post : Option am_V → List am_C → Prop} (hr : am_rt X (some .int) post) {sp_Ex_goOn : am_S} {dd_Ex_goOn : Nat} (c_Ex_goOn : Con y_Ex_goOn b_Ex_goOn 3 none dd_Ex_goOn 0 0 false sp_Ex_goOn) (hdd_Ex_goOn : dd_Ex_goOn + 1 ≤ dd) {l1 s_size e_ending e_gone e_steps e_stepsBack e_stuck e_stoodFor e_stepsHere : Int32} {c1 c2 c3 c4 c5 c6 c7 c8 c10 c11 c12 c13 c14 c15 c16 c18 c19 c20 c21 c22 c23 c24 c25 : am_C}
    (h : (l1 < 1 → AW X 12 [some (aR 0), some (aI l1)] [] [oC 0 [aR 1, aR 9, aR 17], c1, c2, c3, c4, c5, c6, c7, c8, oC 2 [aI s_size, aR 10, aR 11, aR 12, aR 13, aR 14, aR 15, aR 16], c10, c11, c12, c13, c14, c15, c16, oC 3 [aR 1, aR 9, aI e_ending, aI e_gone, aI e_steps, aI e_stepsBack, aI e_stuck, aI e_stoodFor, aI e_stepsHere, aR 18, aR 22], c18, c19, c20, c21, c22, c23, c24, c25] bc bs) ∧ (¬ l1 < 1 → (l1 ≤ 1000 → sp_Ex_goOn [aR 17, aI l1] [oC 0 [aR 1, aR 9, aR 17], c1, c2, c3, c4, c5, c6, c7, c8, oC 2 [aI s_size, aR 10, aR 11, aR 12, aR 13, aR 14, aR 15, aR 16], c10, c11, c12, c13, c14, c15, c16, oC 3 [aR 1, aR 9, aI e_ending, aI e_gone, aI e_steps, aI e_stepsBack, aI e_stuck, aI e_stoodFor, aI e_stepsHere, aR 18, aR 22], c18, c19, c20, c21, c22, c23, c24, c25] (fun rv w' => AW X 30 [some (aR 0), none] (rv.toList ++ []) w' bc bs)) ∧ (¬ l1 ≤ 1000 → AW X 12 [some (aR 0), some (aI l1)] [] [oC 0 [aR 1, aR 9, aR 17], c1, c2, c3, c4, c5, c6, c7, c8, oC 2 [aI s_size, aR 10, aR 11, aR 12, aR 13, aR 14, aR 15, aR 16], c10, c11, c12, c13, c14, c15, c16, oC 3 [aR 1, aR 9, aI e_ending, aI e_gone, aI e_steps, aI e_stepsBack, aI e_stuck, aI e_stoodFor, aI e_stepsHere, aR 18, aR 22], c18, c19, c20, c21, c22, c23, c24, c25] bc bs))) :
    AW X 0 [some (aR 0), some (aI l1)] [] [oC 0 [aR 1, aR 9, aR 17], c1, c2, c3, c4, c5, c6, c7, c8, oC 2 [aI s_size, aR 10, aR 11, aR 12, aR 13, aR 14, aR 15, aR 16], c10, c11, c12, c13, c14, c15, c16, oC 3 [aR 1, aR 9, aI e_ending, aI e_gone, aI e_steps, aI e_stepsBack, aI e_stuck, aI e_stoodFor, aI e_stepsHere, aR 18, aR 22], c18, c19, c20, c21, c22, c23, c24, c25] bc bs := by
  refine aw_iload_n K d_SE_go_0 rfl rfl ?_
  refine aw_iconst K d_SE_go_1 rfl (v := 1) (by decide) ?_
  refine aw_icmp_lt K d_SE_go_2 (t := 12) (by decide) rfl (fun q => ?_) (fun q => ?_)
  · replace h := h.1 q
    exact h
  · replace h := h.2 q
    refine aw_iload_n K d_SE_go_5 rfl rfl ?_
    refine aw_sipush K d_SE_go_6 rfl (v := 1000) (by decide) ?_
    refine aw_icmp_le K d_SE_go_9 (t := 22) (by decide) rfl (fun q => ?_) (fun q => ?_)
    · replace h := h.1 q
      refine aw_aload_n K d_SE_go_22 rfl rfl ?_
      refine aw_getf K fd_SE_36 d_SE_go_23 rfl rfl rfl ?_
      refine aw_iload_n K d_SE_go_26 rfl rfl ?_
      refine aw_less [1] rfl ?_
      exact aw_callV K c_Ex_goOn cb_SE_108 ci_Ex_goOn cs_Ex_goOn hdd_Ex_goOn (k := 17) rfl rfl d_SE_go_27 rfl (av := [aI l1]) rfl (Nat.le_of_ble_eq_true rfl) h (fun rv w' hF => hF)
    · replace h := h.2 q
      exact h
set_option maxRecDepth 20000 in
theorem x_SE_go_30 {X : am_X} {dd bc bs : Nat} (K : am_ok X b_SE_go R_SE 2 dd) {post : Option am_V → List am_C → Prop} (hr : am_rt X (some .int) post) {s_size e_ending e_gone e_steps e_stepsBack e_stuck e_stoodFor e_stepsHere : Int32} {c1 c2 c3 c4 c5 c6 c7 c8 c10 c11 c12 c13 c14 c15 c16 c18 c19 c20 c21 c22 c23 c24 c25 : am_C}
    (h : post (some (aI s_size)) [oC 0 [aR 1, aR 9, aR 17], c1, c2, c3, c4, c5, c6, c7, c8, oC 2 [aI s_size, aR 10, aR 11, aR 12, aR 13, aR 14, aR 15, aR 16], c10, c11, c12, c13, c14, c15, c16, oC 3 [aR 1, aR 9, aI e_ending, aI e_gone, aI e_steps, aI e_stepsBack, aI e_stuck, aI e_stoodFor, aI e_stepsHere, aR 18, aR 22], c18, c19, c20, c21, c22, c23, c24, c25]) :
    AW X 30 [some (aR 0), none] [] [oC 0 [aR 1, aR 9, aR 17], c1, c2, c3, c4, c5, c6, c7, c8, oC 2 [aI s_size, aR 10, aR 11, aR 12, aR 13, aR 14, aR 15, aR 16], c10, c11, c12, c13, c14, c15, c16, oC 3 [aR 1, aR 9, aI e_ending, aI e_gone, aI e_steps, aI e_stepsBack, aI e_stuck, aI e_stoodFor, aI e_stepsHere, aR 18, aR 22], c18, c19, c20, c21, c22, c23, c24, c25] bc bs := by
  refine aw_aload_n K d_SE_go_30 rfl rfl ?_
  refine aw_getf K fd_SE_27 d_SE_go_31 rfl rfl rfl ?_
  refine aw_getf K fd_SE_114 d_SE_go_34 rfl rfl rfl ?_
  exact aw_iret K hr d_SE_go_37 h
set_option maxRecDepth 20000 in
theorem x_SE_node_0 {X : am_X} {dd bc bs : Nat} (K : am_ok X b_SE_node R_SE 3 dd) {post : Option am_V → List am_C → Prop} (hr : am_rt X (some .int) post) {sp_St_has : am_S} {dd_St_has : Nat} (c_St_has : Con y_St_has b_St_has 2 (some .boolean) dd_St_has 0 0 false sp_St_has) (hdd_St_has : dd_St_has + 1 ≤ dd) {l1 l2 m_nodes m_states m_kinds m_rules s_size : Int32} {m_badPairs : Int64} {s_forms : Nat → Int64} {room : Nat} {c2 c3 c4 c5 c6 c7 c8 c11 c12 c13 c14 c15 c16 c17 c18 c19 c20 c21 c22 c23 c24 c25 : am_C}
    (h : sp_St_has [aR 9, aI l1] [oC 0 [aR 1, aR 9, aR 17], oC 1 [aI m_nodes, aI m_states, aI m_kinds, aI m_rules, aR 2, aR 3, aR 4, aR 5, aR 6, aR 7, aR 8, aL m_badPairs], c2, c3, c4, c5, c6, c7, c8, oC 2 [aI s_size, aR 10, aR 11, aR 12, aR 13, aR 14, aR 15, aR 16], jC room s_forms, c11, c12, c13, c14, c15, c16, c17, c18, c19, c20, c21, c22, c23, c24, c25] (fun rv w' => AW X 8 [some (aR 0), some (aI l1), some (aI l2)] (rv.toList ++ []) w' bc bs)) :
    AW X 0 [some (aR 0), some (aI l1), some (aI l2)] [] [oC 0 [aR 1, aR 9, aR 17], oC 1 [aI m_nodes, aI m_states, aI m_kinds, aI m_rules, aR 2, aR 3, aR 4, aR 5, aR 6, aR 7, aR 8, aL m_badPairs], c2, c3, c4, c5, c6, c7, c8, oC 2 [aI s_size, aR 10, aR 11, aR 12, aR 13, aR 14, aR 15, aR 16], jC room s_forms, c11, c12, c13, c14, c15, c16, c17, c18, c19, c20, c21, c22, c23, c24, c25] bc bs := by
  refine aw_aload_n K d_SE_node_0 rfl rfl ?_
  refine aw_getf K fd_SE_27 d_SE_node_1 rfl rfl rfl ?_
  refine aw_iload_n K d_SE_node_4 rfl rfl ?_
  exact aw_callV K c_St_has cb_SE_119 ci_St_has cs_St_has hdd_St_has (k := 9) rfl rfl d_SE_node_5 rfl (av := [aI l1]) rfl (Nat.le_of_ble_eq_true rfl) h (fun rv w' hF => hF)
set_option maxRecDepth 20000 in
theorem x_SE_node_8 {X : am_X} {dd bc bs : Nat} (K : am_ok X b_SE_node R_SE 3 dd) {post : Option am_V → List am_C → Prop} (hr : am_rt X (some .int) post) {sp_SE_stateIn : am_S} {dd_SE_stateIn : Nat} (c_SE_stateIn : Con y_SE_stateIn b_SE_stateIn 3 (some .int) dd_SE_stateIn 0 0 false sp_SE_stateIn) (hdd_SE_stateIn : dd_SE_stateIn + 1 ≤ dd) {l1 l2 s0 m_nodes m_states m_kinds m_rules s_size : Int32} {m_badPairs : Int64} {s_forms : Nat → Int64} {room : Nat} {c2 c3 c4 c5 c6 c7 c8 c11 c12 c13 c14 c15 c16 c17 c18 c19 c20 c21 c22 c23 c24 c25 : am_C}
    (h : (s0 = 0 → AW X 26 [some (aR 0), some (aI l1), some (aI l2)] [] [oC 0 [aR 1, aR 9, aR 17], oC 1 [aI m_nodes, aI m_states, aI m_kinds, aI m_rules, aR 2, aR 3, aR 4, aR 5, aR 6, aR 7, aR 8, aL m_badPairs], c2, c3, c4, c5, c6, c7, c8, oC 2 [aI s_size, aR 10, aR 11, aR 12, aR 13, aR 14, aR 15, aR 16], jC room s_forms, c11, c12, c13, c14, c15, c16, c17, c18, c19, c20, c21, c22, c23, c24, c25] bc bs) ∧ (¬ s0 = 0 → (l2 < 0 → AW X 26 [some (aR 0), some (aI l1), some (aI l2)] [] [oC 0 [aR 1, aR 9, aR 17], oC 1 [aI m_nodes, aI m_states, aI m_kinds, aI m_rules, aR 2, aR 3, aR 4, aR 5, aR 6, aR 7, aR 8, aL m_badPairs], c2, c3, c4, c5, c6, c7, c8, oC 2 [aI s_size, aR 10, aR 11, aR 12, aR 13, aR 14, aR 15, aR 16], jC room s_forms, c11, c12, c13, c14, c15, c16, c17, c18, c19, c20, c21, c22, c23, c24, c25] bc bs) ∧ (¬ l2 < 0 → (l2 < m_nodes → vp_in l1 room ∧ sp_SE_stateIn [aL (s_forms l1.toNatClampNeg), aI l2] [oC 0 [aR 1, aR 9, aR 17], oC 1 [aI m_nodes, aI m_states, aI m_kinds, aI m_rules, aR 2, aR 3, aR 4, aR 5, aR 6, aR 7, aR 8, aL m_badPairs], c2, c3, c4, c5, c6, c7, c8, oC 2 [aI s_size, aR 10, aR 11, aR 12, aR 13, aR 14, aR 15, aR 16], jC room s_forms, c11, c12, c13, c14, c15, c16, c17, c18, c19, c20, c21, c22, c23, c24, c25] (fun rv w' => AW X 49 [none, none, none] (rv.toList ++ []) w' bc bs)) ∧ (¬ l2 < m_nodes → AW X 26 [some (aR 0), some (aI l1), some (aI l2)] [] [oC 0 [aR 1, aR 9, aR 17], oC 1 [aI m_nodes, aI m_states, aI m_kinds, aI m_rules, aR 2, aR 3, aR 4, aR 5, aR 6, aR 7, aR 8, aL m_badPairs], c2, c3, c4, c5, c6, c7, c8, oC 2 [aI s_size, aR 10, aR 11, aR 12, aR 13, aR 14, aR 15, aR 16], jC room s_forms, c11, c12, c13, c14, c15, c16, c17, c18, c19, c20, c21, c22, c23, c24, c25] bc bs)))) :
    AW X 8 [some (aR 0), some (aI l1), some (aI l2)] [aI s0] [oC 0 [aR 1, aR 9, aR 17], oC 1 [aI m_nodes, aI m_states, aI m_kinds, aI m_rules, aR 2, aR 3, aR 4, aR 5, aR 6, aR 7, aR 8, aL m_badPairs], c2, c3, c4, c5, c6, c7, c8, oC 2 [aI s_size, aR 10, aR 11, aR 12, aR 13, aR 14, aR 15, aR 16], jC room s_forms, c11, c12, c13, c14, c15, c16, c17, c18, c19, c20, c21, c22, c23, c24, c25] bc bs := by
  refine aw_if_eq K d_SE_node_8 (t := 26) (by decide) rfl (fun q => ?_) (fun q => ?_)
  · replace h := h.1 q
    exact h
  · replace h := h.2 q
    refine aw_iload_n K d_SE_node_11 rfl rfl ?_
    refine aw_if_lt K d_SE_node_12 (t := 26) (by decide) rfl (fun q => ?_) (fun q => ?_)
    · replace h := h.1 q
      exact h
    · replace h := h.2 q
      refine aw_iload_n K d_SE_node_15 rfl rfl ?_
      refine aw_aload_n K d_SE_node_16 rfl rfl ?_
      refine aw_getf K fd_SE_20 d_SE_node_17 rfl rfl rfl ?_
      refine aw_getf K fd_SE_122 d_SE_node_20 rfl rfl rfl ?_
      refine aw_icmp_lt K d_SE_node_23 (t := 36) (by decide) rfl (fun q => ?_) (fun q => ?_)
      · replace h := h.1 q
        refine aw_aload_n K d_SE_node_36 rfl rfl ?_
        refine aw_getf K fd_SE_27 d_SE_node_37 rfl rfl rfl ?_
        refine aw_getf K fd_SE_130 d_SE_node_40 rfl rfl rfl ?_
        refine aw_iload_n K d_SE_node_43 rfl rfl ?_
        refine aw_lald K d_SE_node_44 rfl rfl h.1 ?_
        replace h := h.2
        refine aw_iload_n K d_SE_node_45 rfl rfl ?_
        refine aw_less [0, 1, 2] rfl ?_
        exact aw_callS K c_SE_stateIn cb_SE_134 ct_SE_stateIn hdd_SE_stateIn d_SE_node_46 rfl (av := [aL (s_forms l1.toNatClampNeg), aI l2]) rfl (Nat.le_of_ble_eq_true rfl) h (fun rv w' hF => hF)
      · replace h := h.2 q
        exact h
set_option maxRecDepth 20000 in
theorem x_SE_node_49 {X : am_X} {dd bc bs : Nat} (K : am_ok X b_SE_node R_SE 3 dd) {post : Option am_V → List am_C → Prop} (hr : am_rt X (some .int) post) {s0 m_nodes m_states m_kinds m_rules s_size : Int32} {m_badPairs : Int64} {s_forms : Nat → Int64} {room : Nat} {c2 c3 c4 c5 c6 c7 c8 c11 c12 c13 c14 c15 c16 c17 c18 c19 c20 c21 c22 c23 c24 c25 : am_C}
    (h : post (some (aI s0)) [oC 0 [aR 1, aR 9, aR 17], oC 1 [aI m_nodes, aI m_states, aI m_kinds, aI m_rules, aR 2, aR 3, aR 4, aR 5, aR 6, aR 7, aR 8, aL m_badPairs], c2, c3, c4, c5, c6, c7, c8, oC 2 [aI s_size, aR 10, aR 11, aR 12, aR 13, aR 14, aR 15, aR 16], jC room s_forms, c11, c12, c13, c14, c15, c16, c17, c18, c19, c20, c21, c22, c23, c24, c25]) :
    AW X 49 [none, none, none] [aI s0] [oC 0 [aR 1, aR 9, aR 17], oC 1 [aI m_nodes, aI m_states, aI m_kinds, aI m_rules, aR 2, aR 3, aR 4, aR 5, aR 6, aR 7, aR 8, aL m_badPairs], c2, c3, c4, c5, c6, c7, c8, oC 2 [aI s_size, aR 10, aR 11, aR 12, aR 13, aR 14, aR 15, aR 16], jC room s_forms, c11, c12, c13, c14, c15, c16, c17, c18, c19, c20, c21, c22, c23, c24, c25] bc bs := by
  exact aw_iret K hr d_SE_node_49 h
set_option maxRecDepth 20000 in
theorem x_SE_code_0 {X : am_X} {dd bc bs : Nat} (K : am_ok X b_SE_code R_SE 3 dd) {post : Option am_V → List am_C → Prop} (hr : am_rt X (some .int) post) {sp_St_has : am_S} {dd_St_has : Nat} (c_St_has : Con y_St_has b_St_has 2 (some .boolean) dd_St_has 0 0 false sp_St_has) (hdd_St_has : dd_St_has + 1 ≤ dd) {l1 l2 s_size : Int32} {s_forms : Nat → Int64} {room : Nat} {c1 c2 c3 c4 c5 c6 c7 c8 c11 c12 c13 c14 c15 c16 c17 c18 c19 c20 c21 c22 c23 c24 c25 : am_C}
    (h : sp_St_has [aR 9, aI l1] [oC 0 [aR 1, aR 9, aR 17], c1, c2, c3, c4, c5, c6, c7, c8, oC 2 [aI s_size, aR 10, aR 11, aR 12, aR 13, aR 14, aR 15, aR 16], jC room s_forms, c11, c12, c13, c14, c15, c16, c17, c18, c19, c20, c21, c22, c23, c24, c25] (fun rv w' => AW X 8 [some (aR 0), some (aI l1), some (aI l2)] (rv.toList ++ []) w' bc bs)) :
    AW X 0 [some (aR 0), some (aI l1), some (aI l2)] [] [oC 0 [aR 1, aR 9, aR 17], c1, c2, c3, c4, c5, c6, c7, c8, oC 2 [aI s_size, aR 10, aR 11, aR 12, aR 13, aR 14, aR 15, aR 16], jC room s_forms, c11, c12, c13, c14, c15, c16, c17, c18, c19, c20, c21, c22, c23, c24, c25] bc bs := by
  refine aw_aload_n K d_SE_code_0 rfl rfl ?_
  refine aw_getf K fd_SE_27 d_SE_code_1 rfl rfl rfl ?_
  refine aw_iload_n K d_SE_code_4 rfl rfl ?_
  exact aw_callV K c_St_has cb_SE_119 ci_St_has cs_St_has hdd_St_has (k := 9) rfl rfl d_SE_code_5 rfl (av := [aI l1]) rfl (Nat.le_of_ble_eq_true rfl) h (fun rv w' hF => hF)
set_option maxRecDepth 20000 in
theorem x_SE_code_8 {X : am_X} {dd bc bs : Nat} (K : am_ok X b_SE_code R_SE 3 dd) {post : Option am_V → List am_C → Prop} (hr : am_rt X (some .int) post) {sp_SE_codesIn : am_S} {dd_SE_codesIn : Nat} (c_SE_codesIn : Con y_SE_codesIn b_SE_codesIn 3 (some .int) dd_SE_codesIn 0 0 false sp_SE_codesIn) (hdd_SE_codesIn : dd_SE_codesIn + 1 ≤ dd) {l1 l2 s0 s_size : Int32} {s_forms : Nat → Int64} {room : Nat} {c1 c2 c3 c4 c5 c6 c7 c8 c11 c12 c13 c14 c15 c16 c17 c18 c19 c20 c21 c22 c23 c24 c25 : am_C}
    (h : (s0 = 0 → AW X 31 [some (aR 0), some (aI l1), some (aI l2)] [] [oC 0 [aR 1, aR 9, aR 17], c1, c2, c3, c4, c5, c6, c7, c8, oC 2 [aI s_size, aR 10, aR 11, aR 12, aR 13, aR 14, aR 15, aR 16], jC room s_forms, c11, c12, c13, c14, c15, c16, c17, c18, c19, c20, c21, c22, c23, c24, c25] bc bs) ∧ (¬ s0 = 0 → (l2 < 0 → AW X 31 [some (aR 0), some (aI l1), some (aI l2)] [] [oC 0 [aR 1, aR 9, aR 17], c1, c2, c3, c4, c5, c6, c7, c8, oC 2 [aI s_size, aR 10, aR 11, aR 12, aR 13, aR 14, aR 15, aR 16], jC room s_forms, c11, c12, c13, c14, c15, c16, c17, c18, c19, c20, c21, c22, c23, c24, c25] bc bs) ∧ (¬ l2 < 0 → vp_in l1 room ∧ sp_SE_codesIn [aL (s_forms l1.toNatClampNeg)] [oC 0 [aR 1, aR 9, aR 17], c1, c2, c3, c4, c5, c6, c7, c8, oC 2 [aI s_size, aR 10, aR 11, aR 12, aR 13, aR 14, aR 15, aR 16], jC room s_forms, c11, c12, c13, c14, c15, c16, c17, c18, c19, c20, c21, c22, c23, c24, c25] (fun rv w' => AW X 28 [some (aR 0), some (aI l1), some (aI l2)] (rv.toList ++ [aI l2]) w' bc bs)))) :
    AW X 8 [some (aR 0), some (aI l1), some (aI l2)] [aI s0] [oC 0 [aR 1, aR 9, aR 17], c1, c2, c3, c4, c5, c6, c7, c8, oC 2 [aI s_size, aR 10, aR 11, aR 12, aR 13, aR 14, aR 15, aR 16], jC room s_forms, c11, c12, c13, c14, c15, c16, c17, c18, c19, c20, c21, c22, c23, c24, c25] bc bs := by
  refine aw_if_eq K d_SE_code_8 (t := 31) (by decide) rfl (fun q => ?_) (fun q => ?_)
  · replace h := h.1 q
    exact h
  · replace h := h.2 q
    refine aw_iload_n K d_SE_code_11 rfl rfl ?_
    refine aw_if_lt K d_SE_code_12 (t := 31) (by decide) rfl (fun q => ?_) (fun q => ?_)
    · replace h := h.1 q
      exact h
    · replace h := h.2 q
      refine aw_iload_n K d_SE_code_15 rfl rfl ?_
      refine aw_aload_n K d_SE_code_16 rfl rfl ?_
      refine aw_getf K fd_SE_27 d_SE_code_17 rfl rfl rfl ?_
      refine aw_getf K fd_SE_130 d_SE_code_20 rfl rfl rfl ?_
      refine aw_iload_n K d_SE_code_23 rfl rfl ?_
      refine aw_lald K d_SE_code_24 rfl rfl h.1 ?_
      replace h := h.2
      exact aw_callS K c_SE_codesIn cb_SE_138 ct_SE_codesIn hdd_SE_codesIn d_SE_code_25 rfl (av := [aL (s_forms l1.toNatClampNeg)]) rfl (Nat.le_of_ble_eq_true rfl) h (fun rv w' hF => hF)
set_option maxRecDepth 20000 in
theorem x_SE_code_28 {X : am_X} {dd bc bs : Nat} (K : am_ok X b_SE_code R_SE 3 dd) {post : Option am_V → List am_C → Prop} (hr : am_rt X (some .int) post) {sp_SE_codeIn : am_S} {dd_SE_codeIn : Nat} (c_SE_codeIn : Con y_SE_codeIn b_SE_codeIn 3 (some .int) dd_SE_codeIn 0 0 false sp_SE_codeIn) (hdd_SE_codeIn : dd_SE_codeIn + 1 ≤ dd) {l1 l2 s0 s1 s_size : Int32} {s_forms : Nat → Int64} {room : Nat} {c1 c2 c3 c4 c5 c6 c7 c8 c11 c12 c13 c14 c15 c16 c17 c18 c19 c20 c21 c22 c23 c24 c25 : am_C}
    (h : (s1 < s0 → vp_in l1 room ∧ sp_SE_codeIn [aL (s_forms l1.toNatClampNeg), aI l2] [oC 0 [aR 1, aR 9, aR 17], c1, c2, c3, c4, c5, c6, c7, c8, oC 2 [aI s_size, aR 10, aR 11, aR 12, aR 13, aR 14, aR 15, aR 16], jC room s_forms, c11, c12, c13, c14, c15, c16, c17, c18, c19, c20, c21, c22, c23, c24, c25] (fun rv w' => AW X 54 [none, none, none] (rv.toList ++ []) w' bc bs)) ∧ (¬ s1 < s0 → AW X 31 [some (aR 0), some (aI l1), some (aI l2)] [] [oC 0 [aR 1, aR 9, aR 17], c1, c2, c3, c4, c5, c6, c7, c8, oC 2 [aI s_size, aR 10, aR 11, aR 12, aR 13, aR 14, aR 15, aR 16], jC room s_forms, c11, c12, c13, c14, c15, c16, c17, c18, c19, c20, c21, c22, c23, c24, c25] bc bs)) :
    AW X 28 [some (aR 0), some (aI l1), some (aI l2)] [aI s0, aI s1] [oC 0 [aR 1, aR 9, aR 17], c1, c2, c3, c4, c5, c6, c7, c8, oC 2 [aI s_size, aR 10, aR 11, aR 12, aR 13, aR 14, aR 15, aR 16], jC room s_forms, c11, c12, c13, c14, c15, c16, c17, c18, c19, c20, c21, c22, c23, c24, c25] bc bs := by
  refine aw_icmp_lt K d_SE_code_28 (t := 41) (by decide) rfl (fun q => ?_) (fun q => ?_)
  · replace h := h.1 q
    refine aw_aload_n K d_SE_code_41 rfl rfl ?_
    refine aw_getf K fd_SE_27 d_SE_code_42 rfl rfl rfl ?_
    refine aw_getf K fd_SE_130 d_SE_code_45 rfl rfl rfl ?_
    refine aw_iload_n K d_SE_code_48 rfl rfl ?_
    refine aw_lald K d_SE_code_49 rfl rfl h.1 ?_
    replace h := h.2
    refine aw_iload_n K d_SE_code_50 rfl rfl ?_
    refine aw_less [0, 1, 2] rfl ?_
    exact aw_callS K c_SE_codeIn cb_SE_144 ct_SE_codeIn hdd_SE_codeIn d_SE_code_51 rfl (av := [aL (s_forms l1.toNatClampNeg), aI l2]) rfl (Nat.le_of_ble_eq_true rfl) h (fun rv w' hF => hF)
  · replace h := h.2 q
    exact h
set_option maxRecDepth 20000 in
theorem x_SE_code_54 {X : am_X} {dd bc bs : Nat} (K : am_ok X b_SE_code R_SE 3 dd) {post : Option am_V → List am_C → Prop} (hr : am_rt X (some .int) post) {s0 s_size : Int32} {s_forms : Nat → Int64} {room : Nat} {c1 c2 c3 c4 c5 c6 c7 c8 c11 c12 c13 c14 c15 c16 c17 c18 c19 c20 c21 c22 c23 c24 c25 : am_C}
    (h : post (some (aI s0)) [oC 0 [aR 1, aR 9, aR 17], c1, c2, c3, c4, c5, c6, c7, c8, oC 2 [aI s_size, aR 10, aR 11, aR 12, aR 13, aR 14, aR 15, aR 16], jC room s_forms, c11, c12, c13, c14, c15, c16, c17, c18, c19, c20, c21, c22, c23, c24, c25]) :
    AW X 54 [none, none, none] [aI s0] [oC 0 [aR 1, aR 9, aR 17], c1, c2, c3, c4, c5, c6, c7, c8, oC 2 [aI s_size, aR 10, aR 11, aR 12, aR 13, aR 14, aR 15, aR 16], jC room s_forms, c11, c12, c13, c14, c15, c16, c17, c18, c19, c20, c21, c22, c23, c24, c25] bc bs := by
  exact aw_iret K hr d_SE_code_54 h
set_option maxRecDepth 20000 in
theorem x_SE_whole_0 {X : am_X} {dd bc bs : Nat} (K : am_ok X b_SE_whole R_SE 3 dd) {post : Option am_V → List am_C → Prop} (hr : am_rt X (some .int) post) {sp_St_has : am_S} {dd_St_has : Nat} (c_St_has : Con y_St_has b_St_has 2 (some .boolean) dd_St_has 0 0 false sp_St_has) (hdd_St_has : dd_St_has + 1 ≤ dd) {l1 l2 s_size : Int32} {s_levels s_origins s_rules s_steps s_symmetries : Nat → Int32} {s_forms : Nat → Int64} {room : Nat} {c1 c2 c3 c4 c5 c6 c7 c8 c16 c17 c18 c19 c20 c21 c22 c23 c24 c25 : am_C}
    (h : sp_St_has [aR 9, aI l1] [oC 0 [aR 1, aR 9, aR 17], c1, c2, c3, c4, c5, c6, c7, c8, oC 2 [aI s_size, aR 10, aR 11, aR 12, aR 13, aR 14, aR 15, aR 16], jC room s_forms, iC room s_levels, iC room s_origins, iC room s_rules, iC room s_steps, iC room s_symmetries, c16, c17, c18, c19, c20, c21, c22, c23, c24, c25] (fun rv w' => AW X 8 [some (aR 0), some (aI l1), some (aI l2)] (rv.toList ++ []) w' bc bs)) :
    AW X 0 [some (aR 0), some (aI l1), some (aI l2)] [] [oC 0 [aR 1, aR 9, aR 17], c1, c2, c3, c4, c5, c6, c7, c8, oC 2 [aI s_size, aR 10, aR 11, aR 12, aR 13, aR 14, aR 15, aR 16], jC room s_forms, iC room s_levels, iC room s_origins, iC room s_rules, iC room s_steps, iC room s_symmetries, c16, c17, c18, c19, c20, c21, c22, c23, c24, c25] bc bs := by
  refine aw_aload_n K d_SE_whole_0 rfl rfl ?_
  refine aw_getf K fd_SE_27 d_SE_whole_1 rfl rfl rfl ?_
  refine aw_iload_n K d_SE_whole_4 rfl rfl ?_
  exact aw_callV K c_St_has cb_SE_119 ci_St_has cs_St_has hdd_St_has (k := 9) rfl rfl d_SE_whole_5 rfl (av := [aI l1]) rfl (Nat.le_of_ble_eq_true rfl) h (fun rv w' hF => hF)
set_option maxRecDepth 20000 in
theorem x_SE_whole_8 {X : am_X} {dd bc bs : Nat} (K : am_ok X b_SE_whole R_SE 3 dd) {post : Option am_V → List am_C → Prop} (hr : am_rt X (some .int) post) {sp_SE_codesIn : am_S} {dd_SE_codesIn : Nat} (c_SE_codesIn : Con y_SE_codesIn b_SE_codesIn 3 (some .int) dd_SE_codesIn 0 0 false sp_SE_codesIn) (hdd_SE_codesIn : dd_SE_codesIn + 1 ≤ dd) {l1 l2 s0 s_size : Int32} {s_levels s_origins s_rules s_steps s_symmetries : Nat → Int32} {s_forms : Nat → Int64} {room : Nat} {c1 c2 c3 c4 c5 c6 c7 c8 c16 c17 c18 c19 c20 c21 c22 c23 c24 c25 : am_C}
    (h : (¬ s0 = 0 → (l2 = 0 → vp_in l1 room ∧ sp_SE_codesIn [aL (s_forms l1.toNatClampNeg)] [oC 0 [aR 1, aR 9, aR 17], c1, c2, c3, c4, c5, c6, c7, c8, oC 2 [aI s_size, aR 10, aR 11, aR 12, aR 13, aR 14, aR 15, aR 16], jC room s_forms, iC room s_levels, iC room s_origins, iC room s_rules, iC room s_steps, iC room s_symmetries, c16, c17, c18, c19, c20, c21, c22, c23, c24, c25] (fun rv w' => AW X 72 [none, none, none] (rv.toList ++ []) w' bc bs)) ∧ (l2 = 1 → vp_in l1 room ∧ post (some (aI (s_levels l1.toNatClampNeg))) [oC 0 [aR 1, aR 9, aR 17], c1, c2, c3, c4, c5, c6, c7, c8, oC 2 [aI s_size, aR 10, aR 11, aR 12, aR 13, aR 14, aR 15, aR 16], jC room s_forms, iC room s_levels, iC room s_origins, iC room s_rules, iC room s_steps, iC room s_symmetries, c16, c17, c18, c19, c20, c21, c22, c23, c24, c25]) ∧ (l2 = 2 → vp_in l1 room ∧ post (some (aI (s_origins l1.toNatClampNeg))) [oC 0 [aR 1, aR 9, aR 17], c1, c2, c3, c4, c5, c6, c7, c8, oC 2 [aI s_size, aR 10, aR 11, aR 12, aR 13, aR 14, aR 15, aR 16], jC room s_forms, iC room s_levels, iC room s_origins, iC room s_rules, iC room s_steps, iC room s_symmetries, c16, c17, c18, c19, c20, c21, c22, c23, c24, c25]) ∧ (l2 = 3 → vp_in l1 room ∧ post (some (aI (s_rules l1.toNatClampNeg))) [oC 0 [aR 1, aR 9, aR 17], c1, c2, c3, c4, c5, c6, c7, c8, oC 2 [aI s_size, aR 10, aR 11, aR 12, aR 13, aR 14, aR 15, aR 16], jC room s_forms, iC room s_levels, iC room s_origins, iC room s_rules, iC room s_steps, iC room s_symmetries, c16, c17, c18, c19, c20, c21, c22, c23, c24, c25]) ∧ (l2 = 4 → vp_in l1 room ∧ post (some (aI (s_steps l1.toNatClampNeg))) [oC 0 [aR 1, aR 9, aR 17], c1, c2, c3, c4, c5, c6, c7, c8, oC 2 [aI s_size, aR 10, aR 11, aR 12, aR 13, aR 14, aR 15, aR 16], jC room s_forms, iC room s_levels, iC room s_origins, iC room s_rules, iC room s_steps, iC room s_symmetries, c16, c17, c18, c19, c20, c21, c22, c23, c24, c25]) ∧ (l2 = 5 → vp_in l1 room ∧ post (some (aI (s_symmetries l1.toNatClampNeg))) [oC 0 [aR 1, aR 9, aR 17], c1, c2, c3, c4, c5, c6, c7, c8, oC 2 [aI s_size, aR 10, aR 11, aR 12, aR 13, aR 14, aR 15, aR 16], jC room s_forms, iC room s_levels, iC room s_origins, iC room s_rules, iC room s_steps, iC room s_symmetries, c16, c17, c18, c19, c20, c21, c22, c23, c24, c25]) ∧ (l2.toInt < 0 ∨ 5 < l2.toInt → AW X 123 [some (aR 0), some (aI l1), some (aI l2)] [] [oC 0 [aR 1, aR 9, aR 17], c1, c2, c3, c4, c5, c6, c7, c8, oC 2 [aI s_size, aR 10, aR 11, aR 12, aR 13, aR 14, aR 15, aR 16], jC room s_forms, iC room s_levels, iC room s_origins, iC room s_rules, iC room s_steps, iC room s_symmetries, c16, c17, c18, c19, c20, c21, c22, c23, c24, c25] bc bs)) ∧ (s0 = 0 → AW X 11 [some (aR 0), some (aI l1), some (aI l2)] [] [oC 0 [aR 1, aR 9, aR 17], c1, c2, c3, c4, c5, c6, c7, c8, oC 2 [aI s_size, aR 10, aR 11, aR 12, aR 13, aR 14, aR 15, aR 16], jC room s_forms, iC room s_levels, iC room s_origins, iC room s_rules, iC room s_steps, iC room s_symmetries, c16, c17, c18, c19, c20, c21, c22, c23, c24, c25] bc bs)) :
    AW X 8 [some (aR 0), some (aI l1), some (aI l2)] [aI s0] [oC 0 [aR 1, aR 9, aR 17], c1, c2, c3, c4, c5, c6, c7, c8, oC 2 [aI s_size, aR 10, aR 11, aR 12, aR 13, aR 14, aR 15, aR 16], jC room s_forms, iC room s_levels, iC room s_origins, iC room s_rules, iC room s_steps, iC room s_symmetries, c16, c17, c18, c19, c20, c21, c22, c23, c24, c25] bc bs := by
  refine aw_if_ne K d_SE_whole_8 (t := 21) (by decide) rfl (fun q => ?_) (fun q => ?_)
  · replace h := h.1 q
    refine aw_iload_n K d_SE_whole_21 rfl rfl ?_
    refine aw_tsw K d_SE_whole_22 (fun j hj e => ?_) (fun e => ⟨123, by decide, ?_⟩)
    · rcases (show j = 0 ∨ j = 1 ∨ j = 2 ∨ j = 3 ∨ j = 4 ∨ j = 5 by omega) with rfl | rfl | rfl | rfl | rfl | rfl
      · have q : l2 = 0 := Int32.toInt_inj.mp (by rw [e]; rfl)
        refine ⟨_, 60, rfl, by decide, ?_⟩
        replace h := h.1 q
        refine aw_aload_n K d_SE_whole_60 rfl rfl ?_
        refine aw_getf K fd_SE_27 d_SE_whole_61 rfl rfl rfl ?_
        refine aw_getf K fd_SE_130 d_SE_whole_64 rfl rfl rfl ?_
        refine aw_iload_n K d_SE_whole_67 rfl rfl ?_
        refine aw_lald K d_SE_whole_68 rfl rfl h.1 ?_
        replace h := h.2
        refine aw_less [0, 1, 2] rfl ?_
        exact aw_callS K c_SE_codesIn cb_SE_138 ct_SE_codesIn hdd_SE_codesIn d_SE_whole_69 rfl (av := [aL (s_forms l1.toNatClampNeg)]) rfl (Nat.le_of_ble_eq_true rfl) h (fun rv w' hF => hF)
      · have q : l2 = 1 := Int32.toInt_inj.mp (by rw [e]; rfl)
        refine ⟨_, 73, rfl, by decide, ?_⟩
        replace h := h.2.1 q
        refine aw_aload_n K d_SE_whole_73 rfl rfl ?_
        refine aw_getf K fd_SE_27 d_SE_whole_74 rfl rfl rfl ?_
        refine aw_getf K fd_SE_149 d_SE_whole_77 rfl rfl rfl ?_
        refine aw_iload_n K d_SE_whole_80 rfl rfl ?_
        refine aw_iald K d_SE_whole_81 rfl rfl h.1 ?_
        replace h := h.2
        exact aw_iret K hr d_SE_whole_82 h
      · have q : l2 = 2 := Int32.toInt_inj.mp (by rw [e]; rfl)
        refine ⟨_, 83, rfl, by decide, ?_⟩
        replace h := h.2.2.1 q
        refine aw_aload_n K d_SE_whole_83 rfl rfl ?_
        refine aw_getf K fd_SE_27 d_SE_whole_84 rfl rfl rfl ?_
        refine aw_getf K fd_SE_152 d_SE_whole_87 rfl rfl rfl ?_
        refine aw_iload_n K d_SE_whole_90 rfl rfl ?_
        refine aw_iald K d_SE_whole_91 rfl rfl h.1 ?_
        replace h := h.2
        exact aw_iret K hr d_SE_whole_92 h
      · have q : l2 = 3 := Int32.toInt_inj.mp (by rw [e]; rfl)
        refine ⟨_, 93, rfl, by decide, ?_⟩
        replace h := h.2.2.2.1 q
        refine aw_aload_n K d_SE_whole_93 rfl rfl ?_
        refine aw_getf K fd_SE_27 d_SE_whole_94 rfl rfl rfl ?_
        refine aw_getf K fd_SE_155 d_SE_whole_97 rfl rfl rfl ?_
        refine aw_iload_n K d_SE_whole_100 rfl rfl ?_
        refine aw_iald K d_SE_whole_101 rfl rfl h.1 ?_
        replace h := h.2
        exact aw_iret K hr d_SE_whole_102 h
      · have q : l2 = 4 := Int32.toInt_inj.mp (by rw [e]; rfl)
        refine ⟨_, 103, rfl, by decide, ?_⟩
        replace h := h.2.2.2.2.1 q
        refine aw_aload_n K d_SE_whole_103 rfl rfl ?_
        refine aw_getf K fd_SE_27 d_SE_whole_104 rfl rfl rfl ?_
        refine aw_getf K fd_SE_157 d_SE_whole_107 rfl rfl rfl ?_
        refine aw_iload_n K d_SE_whole_110 rfl rfl ?_
        refine aw_iald K d_SE_whole_111 rfl rfl h.1 ?_
        replace h := h.2
        exact aw_iret K hr d_SE_whole_112 h
      · have q : l2 = 5 := Int32.toInt_inj.mp (by rw [e]; rfl)
        refine ⟨_, 113, rfl, by decide, ?_⟩
        replace h := h.2.2.2.2.2.1 q
        refine aw_aload_n K d_SE_whole_113 rfl rfl ?_
        refine aw_getf K fd_SE_27 d_SE_whole_114 rfl rfl rfl ?_
        refine aw_getf K fd_SE_160 d_SE_whole_117 rfl rfl rfl ?_
        refine aw_iload_n K d_SE_whole_120 rfl rfl ?_
        refine aw_iald K d_SE_whole_121 rfl rfl h.1 ?_
        replace h := h.2
        exact aw_iret K hr d_SE_whole_122 h
    · replace h := h.2.2.2.2.2.2 e
      exact h
  · replace h := h.2 q
    exact h
set_option maxRecDepth 20000 in
theorem x_SE_whole_72 {X : am_X} {dd bc bs : Nat} (K : am_ok X b_SE_whole R_SE 3 dd) {post : Option am_V → List am_C → Prop} (hr : am_rt X (some .int) post) {s0 s_size : Int32} {s_levels s_origins s_rules s_steps s_symmetries : Nat → Int32} {s_forms : Nat → Int64} {room : Nat} {c1 c2 c3 c4 c5 c6 c7 c8 c16 c17 c18 c19 c20 c21 c22 c23 c24 c25 : am_C}
    (h : post (some (aI s0)) [oC 0 [aR 1, aR 9, aR 17], c1, c2, c3, c4, c5, c6, c7, c8, oC 2 [aI s_size, aR 10, aR 11, aR 12, aR 13, aR 14, aR 15, aR 16], jC room s_forms, iC room s_levels, iC room s_origins, iC room s_rules, iC room s_steps, iC room s_symmetries, c16, c17, c18, c19, c20, c21, c22, c23, c24, c25]) :
    AW X 72 [none, none, none] [aI s0] [oC 0 [aR 1, aR 9, aR 17], c1, c2, c3, c4, c5, c6, c7, c8, oC 2 [aI s_size, aR 10, aR 11, aR 12, aR 13, aR 14, aR 15, aR 16], jC room s_forms, iC room s_levels, iC room s_origins, iC room s_rules, iC room s_steps, iC room s_symmetries, c16, c17, c18, c19, c20, c21, c22, c23, c24, c25] bc bs := by
  exact aw_iret K hr d_SE_whole_72 h
set_option maxRecDepth 20000 in
theorem x_SE_wayAt_0 {X : am_X} {dd bc bs : Nat} (K : am_ok X b_SE_wayAt R_SE 2 dd) {post : Option am_V → List am_C → Prop} (hr : am_rt X (some .int) post) {sp_St_greatestLevel : am_S} {dd_St_greatestLevel : Nat} (c_St_greatestLevel : Con y_St_greatestLevel b_St_greatestLevel 1 (some .int) dd_St_greatestLevel 0 0 false sp_St_greatestLevel) (hdd_St_greatestLevel : dd_St_greatestLevel + 1 ≤ dd) {l1 s_size e_ending e_gone e_steps e_stepsBack e_stuck e_stoodFor e_stepsHere : Int32} {c1 c2 c3 c4 c5 c6 c7 c8 c10 c11 c12 c13 c14 c15 c16 c18 c19 c20 c21 c22 c23 c24 c25 : am_C}
    (h : (¬ e_ending = ((-2)) → AW X 27 [some (aR 0), some (aI l1)] [] [oC 0 [aR 1, aR 9, aR 17], c1, c2, c3, c4, c5, c6, c7, c8, oC 2 [aI s_size, aR 10, aR 11, aR 12, aR 13, aR 14, aR 15, aR 16], c10, c11, c12, c13, c14, c15, c16, oC 3 [aR 1, aR 9, aI e_ending, aI e_gone, aI e_steps, aI e_stepsBack, aI e_stuck, aI e_stoodFor, aI e_stepsHere, aR 18, aR 22], c18, c19, c20, c21, c22, c23, c24, c25] bc bs) ∧ (e_ending = ((-2)) → (l1 < 0 → AW X 27 [some (aR 0), some (aI l1)] [] [oC 0 [aR 1, aR 9, aR 17], c1, c2, c3, c4, c5, c6, c7, c8, oC 2 [aI s_size, aR 10, aR 11, aR 12, aR 13, aR 14, aR 15, aR 16], c10, c11, c12, c13, c14, c15, c16, oC 3 [aR 1, aR 9, aI e_ending, aI e_gone, aI e_steps, aI e_stepsBack, aI e_stuck, aI e_stoodFor, aI e_stepsHere, aR 18, aR 22], c18, c19, c20, c21, c22, c23, c24, c25] bc bs) ∧ (¬ l1 < 0 → sp_St_greatestLevel [aR 9] [oC 0 [aR 1, aR 9, aR 17], c1, c2, c3, c4, c5, c6, c7, c8, oC 2 [aI s_size, aR 10, aR 11, aR 12, aR 13, aR 14, aR 15, aR 16], c10, c11, c12, c13, c14, c15, c16, oC 3 [aR 1, aR 9, aI e_ending, aI e_gone, aI e_steps, aI e_stepsBack, aI e_stuck, aI e_stoodFor, aI e_stepsHere, aR 18, aR 22], c18, c19, c20, c21, c22, c23, c24, c25] (fun rv w' => AW X 24 [some (aR 0), some (aI l1)] (rv.toList ++ [aI l1]) w' bc bs)))) :
    AW X 0 [some (aR 0), some (aI l1)] [] [oC 0 [aR 1, aR 9, aR 17], c1, c2, c3, c4, c5, c6, c7, c8, oC 2 [aI s_size, aR 10, aR 11, aR 12, aR 13, aR 14, aR 15, aR 16], c10, c11, c12, c13, c14, c15, c16, oC 3 [aR 1, aR 9, aI e_ending, aI e_gone, aI e_steps, aI e_stepsBack, aI e_stuck, aI e_stoodFor, aI e_stepsHere, aR 18, aR 22], c18, c19, c20, c21, c22, c23, c24, c25] bc bs := by
  refine aw_aload_n K d_SE_wayAt_0 rfl rfl ?_
  refine aw_getf K fd_SE_36 d_SE_wayAt_1 rfl rfl rfl ?_
  refine aw_getf K fd_SE_111 d_SE_wayAt_4 rfl rfl rfl ?_
  refine aw_bipush K d_SE_wayAt_7 rfl (v := (-2)) (by decide) ?_
  refine aw_icmp_ne K d_SE_wayAt_9 (t := 27) (by decide) rfl (fun q => ?_) (fun q => ?_)
  · replace h := h.1 q
    exact h
  · replace h := h.2 q
    refine aw_iload_n K d_SE_wayAt_12 rfl rfl ?_
    refine aw_if_lt K d_SE_wayAt_13 (t := 27) (by decide) rfl (fun q => ?_) (fun q => ?_)
    · replace h := h.1 q
      exact h
    · replace h := h.2 q
      refine aw_iload_n K d_SE_wayAt_16 rfl rfl ?_
      refine aw_aload_n K d_SE_wayAt_17 rfl rfl ?_
      refine aw_getf K fd_SE_27 d_SE_wayAt_18 rfl rfl rfl ?_
      exact aw_callV K c_St_greatestLevel cb_SE_165 ci_St_greatestLevel cs_St_greatestLevel hdd_St_greatestLevel (k := 9) rfl rfl d_SE_wayAt_21 rfl (av := []) rfl (Nat.le_of_ble_eq_true rfl) h (fun rv w' hF => hF)
set_option maxRecDepth 20000 in
theorem x_SE_wayAt_24 {X : am_X} {dd bc bs : Nat} (K : am_ok X b_SE_wayAt R_SE 2 dd) {post : Option am_V → List am_C → Prop} (hr : am_rt X (some .int) post) {sp_St_beforeLast : am_S} {dd_St_beforeLast : Nat} (c_St_beforeLast : Con y_St_beforeLast b_St_beforeLast 4 (some .int) dd_St_beforeLast 0 0 false sp_St_beforeLast) (hdd_St_beforeLast : dd_St_beforeLast + 1 ≤ dd) {l1 s0 s1 s_size e_ending e_gone e_steps e_stepsBack e_stuck e_stoodFor e_stepsHere : Int32} {c1 c2 c3 c4 c5 c6 c7 c8 c10 c11 c12 c13 c14 c15 c16 c18 c19 c20 c21 c22 c23 c24 c25 : am_C}
    (h : (s1 ≤ s0 → sp_St_beforeLast [aR 9, aI l1] [oC 0 [aR 1, aR 9, aR 17], c1, c2, c3, c4, c5, c6, c7, c8, oC 2 [aI s_size, aR 10, aR 11, aR 12, aR 13, aR 14, aR 15, aR 16], c10, c11, c12, c13, c14, c15, c16, oC 3 [aR 1, aR 9, aI e_ending, aI e_gone, aI e_steps, aI e_stepsBack, aI e_stuck, aI e_stoodFor, aI e_stepsHere, aR 18, aR 22], c18, c19, c20, c21, c22, c23, c24, c25] (fun rv w' => AW X 45 [none, none] (rv.toList ++ []) w' bc bs)) ∧ (¬ s1 ≤ s0 → AW X 27 [some (aR 0), some (aI l1)] [] [oC 0 [aR 1, aR 9, aR 17], c1, c2, c3, c4, c5, c6, c7, c8, oC 2 [aI s_size, aR 10, aR 11, aR 12, aR 13, aR 14, aR 15, aR 16], c10, c11, c12, c13, c14, c15, c16, oC 3 [aR 1, aR 9, aI e_ending, aI e_gone, aI e_steps, aI e_stepsBack, aI e_stuck, aI e_stoodFor, aI e_stepsHere, aR 18, aR 22], c18, c19, c20, c21, c22, c23, c24, c25] bc bs)) :
    AW X 24 [some (aR 0), some (aI l1)] [aI s0, aI s1] [oC 0 [aR 1, aR 9, aR 17], c1, c2, c3, c4, c5, c6, c7, c8, oC 2 [aI s_size, aR 10, aR 11, aR 12, aR 13, aR 14, aR 15, aR 16], c10, c11, c12, c13, c14, c15, c16, oC 3 [aR 1, aR 9, aI e_ending, aI e_gone, aI e_steps, aI e_stepsBack, aI e_stuck, aI e_stoodFor, aI e_stepsHere, aR 18, aR 22], c18, c19, c20, c21, c22, c23, c24, c25] bc bs := by
  refine aw_icmp_le K d_SE_wayAt_24 (t := 37) (by decide) rfl (fun q => ?_) (fun q => ?_)
  · replace h := h.1 q
    refine aw_aload_n K d_SE_wayAt_37 rfl rfl ?_
    refine aw_getf K fd_SE_27 d_SE_wayAt_38 rfl rfl rfl ?_
    refine aw_iload_n K d_SE_wayAt_41 rfl rfl ?_
    refine aw_less [0, 1] rfl ?_
    exact aw_callV K c_St_beforeLast cb_SE_171 ci_St_beforeLast cs_St_beforeLast hdd_St_beforeLast (k := 9) rfl rfl d_SE_wayAt_42 rfl (av := [aI l1]) rfl (Nat.le_of_ble_eq_true rfl) h (fun rv w' hF => hF)
  · replace h := h.2 q
    exact h
set_option maxRecDepth 20000 in
theorem x_SE_wayAt_45 {X : am_X} {dd bc bs : Nat} (K : am_ok X b_SE_wayAt R_SE 2 dd) {post : Option am_V → List am_C → Prop} (hr : am_rt X (some .int) post) {s0 s_size e_ending e_gone e_steps e_stepsBack e_stuck e_stoodFor e_stepsHere : Int32} {c1 c2 c3 c4 c5 c6 c7 c8 c10 c11 c12 c13 c14 c15 c16 c18 c19 c20 c21 c22 c23 c24 c25 : am_C}
    (h : post (some (aI s0)) [oC 0 [aR 1, aR 9, aR 17], c1, c2, c3, c4, c5, c6, c7, c8, oC 2 [aI s_size, aR 10, aR 11, aR 12, aR 13, aR 14, aR 15, aR 16], c10, c11, c12, c13, c14, c15, c16, oC 3 [aR 1, aR 9, aI e_ending, aI e_gone, aI e_steps, aI e_stepsBack, aI e_stuck, aI e_stoodFor, aI e_stepsHere, aR 18, aR 22], c18, c19, c20, c21, c22, c23, c24, c25]) :
    AW X 45 [none, none] [aI s0] [oC 0 [aR 1, aR 9, aR 17], c1, c2, c3, c4, c5, c6, c7, c8, oC 2 [aI s_size, aR 10, aR 11, aR 12, aR 13, aR 14, aR 15, aR 16], c10, c11, c12, c13, c14, c15, c16, oC 3 [aR 1, aR 9, aI e_ending, aI e_gone, aI e_steps, aI e_stepsBack, aI e_stuck, aI e_stoodFor, aI e_stepsHere, aR 18, aR 22], c18, c19, c20, c21, c22, c23, c24, c25] bc bs := by
  exact aw_iret K hr d_SE_wayAt_45 h

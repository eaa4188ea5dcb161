set_option maxRecDepth 20000 in
theorem x_RM_thrown_0 {X : am_X} {dd bc bs : Nat} (K : am_ok X b_RM_thrown R_RM 1 dd) {post : Option am_V → List am_C → Prop} (hr : am_rt X (some .int) post) {x_thrown x_nodes x_room x_states x_kinds x_rules x_numberings x_wholes x_gone x_steps x_old x_stuck x_answer x_badWhole x_same x_at : Int32} {c1 c2 c3 c4 c5 c6 c7 c8 c9 c10 c11 c12 c13 c14 c15 c16 c17 c18 : am_C}
    (h : post (some (aI x_thrown)) [oC 5 [aI x_thrown, aI x_nodes, aI x_room, aI x_states, aI x_kinds, aI x_rules, aR 1, aR 2, aR 3, aR 4, aR 5, aR 6, aR 7, aR 8, aI x_numberings, aI x_wholes, aI x_gone, aI x_steps, aI x_old, aI x_stuck, aI x_answer, aI x_badWhole, aR 9, aR 10, aR 11, aR 12, aR 13, aR 14, aR 15, aR 16, aR 17, aR 18, aI x_same, aI x_at], c1, c2, c3, c4, c5, c6, c7, c8, c9, c10, c11, c12, c13, c14, c15, c16, c17, c18]) :
    AW X 0 [some (aR 0)] [] [oC 5 [aI x_thrown, aI x_nodes, aI x_room, aI x_states, aI x_kinds, aI x_rules, aR 1, aR 2, aR 3, aR 4, aR 5, aR 6, aR 7, aR 8, aI x_numberings, aI x_wholes, aI x_gone, aI x_steps, aI x_old, aI x_stuck, aI x_answer, aI x_badWhole, aR 9, aR 10, aR 11, aR 12, aR 13, aR 14, aR 15, aR 16, aR 17, aR 18, aI x_same, aI x_at], c1, c2, c3, c4, c5, c6, c7, c8, c9, c10, c11, c12, c13, c14, c15, c16, c17, c18] bc bs := by
  refine aw_aload_n K d_RM_thrown_0 rfl rfl ?_
  refine aw_getf K fd_RM_79 d_RM_thrown_1 rfl rfl rfl ?_
  exact aw_iret K hr d_RM_thrown_4 h
set_option maxRecDepth 20000 in
theorem x_RM_throwing_0 {X : am_X} {dd bc bs : Nat} (K : am_ok X b_RM_throwing R_RM 3 dd) {post : Option am_V → List am_C → Prop} (hr : am_rt X (some .boolean) post) {l1 l2 x_thrown x_nodes x_room x_states x_kinds x_rules x_numberings x_wholes x_gone x_steps x_old x_stuck x_answer x_badWhole x_same x_at : Int32} {c1 c2 c3 c4 c5 c6 c7 c8 c9 c10 c11 c12 c13 c14 c15 c16 c17 c18 : am_C}
    (h : (l1 = 0 → (l2 = 0 → AW X 18 [some (aR 0), none, none] [aI 0, aR 0] [oC 5 [aI x_thrown, aI x_nodes, aI x_room, aI x_states, aI x_kinds, aI x_rules, aR 1, aR 2, aR 3, aR 4, aR 5, aR 6, aR 7, aR 8, aI x_numberings, aI x_wholes, aI x_gone, aI x_steps, aI x_old, aI x_stuck, aI x_answer, aI x_badWhole, aR 9, aR 10, aR 11, aR 12, aR 13, aR 14, aR 15, aR 16, aR 17, aR 18, aI x_same, aI x_at], c1, c2, c3, c4, c5, c6, c7, c8, c9, c10, c11, c12, c13, c14, c15, c16, c17, c18] bc bs) ∧ (¬ l2 = 0 → AW X 18 [some (aR 0), none, none] [aI 2, aR 0] [oC 5 [aI x_thrown, aI x_nodes, aI x_room, aI x_states, aI x_kinds, aI x_rules, aR 1, aR 2, aR 3, aR 4, aR 5, aR 6, aR 7, aR 8, aI x_numberings, aI x_wholes, aI x_gone, aI x_steps, aI x_old, aI x_stuck, aI x_answer, aI x_badWhole, aR 9, aR 10, aR 11, aR 12, aR 13, aR 14, aR 15, aR 16, aR 17, aR 18, aI x_same, aI x_at], c1, c2, c3, c4, c5, c6, c7, c8, c9, c10, c11, c12, c13, c14, c15, c16, c17, c18] bc bs)) ∧ (¬ l1 = 0 → AW X 18 [some (aR 0), none, none] [aI 1, aR 0] [oC 5 [aI x_thrown, aI x_nodes, aI x_room, aI x_states, aI x_kinds, aI x_rules, aR 1, aR 2, aR 3, aR 4, aR 5, aR 6, aR 7, aR 8, aI x_numberings, aI x_wholes, aI x_gone, aI x_steps, aI x_old, aI x_stuck, aI x_answer, aI x_badWhole, aR 9, aR 10, aR 11, aR 12, aR 13, aR 14, aR 15, aR 16, aR 17, aR 18, aI x_same, aI x_at], c1, c2, c3, c4, c5, c6, c7, c8, c9, c10, c11, c12, c13, c14, c15, c16, c17, c18] bc bs)) :
    AW X 0 [some (aR 0), some (aI l1), some (aI l2)] [] [oC 5 [aI x_thrown, aI x_nodes, aI x_room, aI x_states, aI x_kinds, aI x_rules, aR 1, aR 2, aR 3, aR 4, aR 5, aR 6, aR 7, aR 8, aI x_numberings, aI x_wholes, aI x_gone, aI x_steps, aI x_old, aI x_stuck, aI x_answer, aI x_badWhole, aR 9, aR 10, aR 11, aR 12, aR 13, aR 14, aR 15, aR 16, aR 17, aR 18, aI x_same, aI x_at], c1, c2, c3, c4, c5, c6, c7, c8, c9, c10, c11, c12, c13, c14, c15, c16, c17, c18] bc bs := by
  refine aw_aload_n K d_RM_throwing_0 rfl rfl ?_
  refine aw_iload_n K d_RM_throwing_1 rfl rfl ?_
  refine aw_if_eq K d_RM_throwing_2 (t := 9) (by decide) rfl (fun q => ?_) (fun q => ?_)
  · replace h := h.1 q
    refine aw_iload_n K d_RM_throwing_9 rfl rfl ?_
    refine aw_if_eq K d_RM_throwing_10 (t := 17) (by decide) rfl (fun q => ?_) (fun q => ?_)
    · replace h := h.1 q
      refine aw_iconst K d_RM_throwing_17 rfl (v := 0) (by decide) ?_
      refine aw_less [1, 2] rfl ?_
      exact h
    · replace h := h.2 q
      refine aw_iconst K d_RM_throwing_13 rfl (v := 2) (by decide) ?_
      refine aw_goto K d_RM_throwing_14 (n := 18) (by decide) ?_
      refine aw_less [1, 2] rfl ?_
      exact h
  · replace h := h.2 q
    refine aw_iconst K d_RM_throwing_5 rfl (v := 1) (by decide) ?_
    refine aw_goto K d_RM_throwing_6 (n := 18) (by decide) ?_
    refine aw_less [1, 2] rfl ?_
    exact h
set_option maxRecDepth 20000 in
theorem x_RM_throwing_18 {X : am_X} {dd bc bs : Nat} (K : am_ok X b_RM_throwing R_RM 3 dd) {post : Option am_V → List am_C → Prop} (hr : am_rt X (some .boolean) post) {s0 x_thrown x_nodes x_room x_states x_kinds x_rules x_numberings x_wholes x_gone x_steps x_old x_stuck x_answer x_badWhole x_same x_at : Int32} {c1 c2 c3 c4 c5 c6 c7 c8 c9 c10 c11 c12 c13 c14 c15 c16 c17 c18 : am_C}
    (h : (s0 ≤ 0 → post (some (aI 0)) [oC 5 [aI s0, aI x_nodes, aI x_room, aI x_states, aI x_kinds, aI x_rules, aR 1, aR 2, aR 3, aR 4, aR 5, aR 6, aR 7, aR 8, aI x_numberings, aI x_wholes, aI x_gone, aI x_steps, aI x_old, aI x_stuck, aI x_answer, aI x_badWhole, aR 9, aR 10, aR 11, aR 12, aR 13, aR 14, aR 15, aR 16, aR 17, aR 18, aI x_same, aI x_at], c1, c2, c3, c4, c5, c6, c7, c8, c9, c10, c11, c12, c13, c14, c15, c16, c17, c18]) ∧ (¬ s0 ≤ 0 → post (some (aI 1)) [oC 5 [aI s0, aI x_nodes, aI x_room, aI x_states, aI x_kinds, aI x_rules, aR 1, aR 2, aR 3, aR 4, aR 5, aR 6, aR 7, aR 8, aI x_numberings, aI x_wholes, aI x_gone, aI x_steps, aI x_old, aI x_stuck, aI x_answer, aI x_badWhole, aR 9, aR 10, aR 11, aR 12, aR 13, aR 14, aR 15, aR 16, aR 17, aR 18, aI x_same, aI x_at], c1, c2, c3, c4, c5, c6, c7, c8, c9, c10, c11, c12, c13, c14, c15, c16, c17, c18])) :
    AW X 18 [some (aR 0), none, none] [aI s0, aR 0] [oC 5 [aI x_thrown, aI x_nodes, aI x_room, aI x_states, aI x_kinds, aI x_rules, aR 1, aR 2, aR 3, aR 4, aR 5, aR 6, aR 7, aR 8, aI x_numberings, aI x_wholes, aI x_gone, aI x_steps, aI x_old, aI x_stuck, aI x_answer, aI x_badWhole, aR 9, aR 10, aR 11, aR 12, aR 13, aR 14, aR 15, aR 16, aR 17, aR 18, aI x_same, aI x_at], c1, c2, c3, c4, c5, c6, c7, c8, c9, c10, c11, c12, c13, c14, c15, c16, c17, c18] bc bs := by
  refine aw_putf K fp_RM_79 d_RM_throwing_18 rfl rfl (Nat.le_of_ble_eq_true rfl) (am_fit_i _) (w' := [oC 5 [aI s0, aI x_nodes, aI x_room, aI x_states, aI x_kinds, aI x_rules, aR 1, aR 2, aR 3, aR 4, aR 5, aR 6, aR 7, aR 8, aI x_numberings, aI x_wholes, aI x_gone, aI x_steps, aI x_old, aI x_stuck, aI x_answer, aI x_badWhole, aR 9, aR 10, aR 11, aR 12, aR 13, aR 14, aR 15, aR 16, aR 17, aR 18, aI x_same, aI x_at], c1, c2, c3, c4, c5, c6, c7, c8, c9, c10, c11, c12, c13, c14, c15, c16, c17, c18]) rfl ?_
  refine aw_aload_n K d_RM_throwing_21 rfl rfl ?_
  refine aw_getf K fd_RM_79 d_RM_throwing_22 rfl rfl rfl ?_
  refine aw_if_le K d_RM_throwing_25 (t := 32) (by decide) rfl (fun q => ?_) (fun q => ?_)
  · replace h := h.1 q
    refine aw_iconst K d_RM_throwing_32 rfl (v := 0) (by decide) ?_
    exact aw_zret K hr d_RM_throwing_33 (Or.inl rfl) h
  · replace h := h.2 q
    refine aw_iconst K d_RM_throwing_28 rfl (v := 1) (by decide) ?_
    refine aw_goto K d_RM_throwing_29 (n := 33) (by decide) ?_
    exact aw_zret K hr d_RM_throwing_33 (Or.inr rfl) h
set_option maxRecDepth 20000 in
theorem x_RM_forget_0 {X : am_X} {dd bc bs : Nat} (K : am_ok X b_RM_forget R_RM 1 dd) {post : Option am_V → List am_C → Prop} (hr : am_rt X none post) {x_thrown x_nodes x_room x_states x_kinds x_rules x_numberings x_wholes x_gone x_steps x_old x_stuck x_answer x_badWhole x_same x_at : Int32} {c1 c2 c3 c4 c5 c6 c7 c8 c9 c10 c11 c12 c13 c14 c15 c16 c17 c18 : am_C}
    (h : post none [oC 5 [aI x_thrown, aI x_nodes, aI x_room, aI x_states, aI x_kinds, aI x_rules, aR 1, aR 2, aR 3, aR 4, aR 5, aR 6, aR 7, aR 8, aI x_numberings, aI 0, aI 0, aI 0, aI 0, aI 0, aI 0, aI ((-1)), aR 9, aR 10, aR 11, aR 12, aR 13, aR 14, aR 15, aR 16, aR 17, aR 18, aI x_same, aI x_at], c1, c2, c3, c4, c5, c6, c7, c8, c9, c10, c11, c12, c13, c14, c15, c16, c17, c18]) :
    AW X 0 [some (aR 0)] [] [oC 5 [aI x_thrown, aI x_nodes, aI x_room, aI x_states, aI x_kinds, aI x_rules, aR 1, aR 2, aR 3, aR 4, aR 5, aR 6, aR 7, aR 8, aI x_numberings, aI x_wholes, aI x_gone, aI x_steps, aI x_old, aI x_stuck, aI x_answer, aI x_badWhole, aR 9, aR 10, aR 11, aR 12, aR 13, aR 14, aR 15, aR 16, aR 17, aR 18, aI x_same, aI x_at], c1, c2, c3, c4, c5, c6, c7, c8, c9, c10, c11, c12, c13, c14, c15, c16, c17, c18] bc bs := by
  refine aw_aload_n K d_RM_forget_0 rfl rfl ?_
  refine aw_iconst K d_RM_forget_1 rfl (v := 0) (by decide) ?_
  refine aw_putf K fp_RM_82 d_RM_forget_2 rfl rfl (Nat.le_of_ble_eq_true rfl) (am_fit_i _) (w' := [oC 5 [aI x_thrown, aI x_nodes, aI x_room, aI x_states, aI x_kinds, aI x_rules, aR 1, aR 2, aR 3, aR 4, aR 5, aR 6, aR 7, aR 8, aI x_numberings, aI 0, aI x_gone, aI x_steps, aI x_old, aI x_stuck, aI x_answer, aI x_badWhole, aR 9, aR 10, aR 11, aR 12, aR 13, aR 14, aR 15, aR 16, aR 17, aR 18, aI x_same, aI x_at], c1, c2, c3, c4, c5, c6, c7, c8, c9, c10, c11, c12, c13, c14, c15, c16, c17, c18]) rfl ?_
  refine aw_aload_n K d_RM_forget_5 rfl rfl ?_
  refine aw_iconst K d_RM_forget_6 rfl (v := 0) (by decide) ?_
  refine aw_putf K fp_RM_85 d_RM_forget_7 rfl rfl (Nat.le_of_ble_eq_true rfl) (am_fit_i _) (w' := [oC 5 [aI x_thrown, aI x_nodes, aI x_room, aI x_states, aI x_kinds, aI x_rules, aR 1, aR 2, aR 3, aR 4, aR 5, aR 6, aR 7, aR 8, aI x_numberings, aI 0, aI 0, aI x_steps, aI x_old, aI x_stuck, aI x_answer, aI x_badWhole, aR 9, aR 10, aR 11, aR 12, aR 13, aR 14, aR 15, aR 16, aR 17, aR 18, aI x_same, aI x_at], c1, c2, c3, c4, c5, c6, c7, c8, c9, c10, c11, c12, c13, c14, c15, c16, c17, c18]) rfl ?_
  refine aw_aload_n K d_RM_forget_10 rfl rfl ?_
  refine aw_iconst K d_RM_forget_11 rfl (v := 0) (by decide) ?_
  refine aw_putf K fp_RM_88 d_RM_forget_12 rfl rfl (Nat.le_of_ble_eq_true rfl) (am_fit_i _) (w' := [oC 5 [aI x_thrown, aI x_nodes, aI x_room, aI x_states, aI x_kinds, aI x_rules, aR 1, aR 2, aR 3, aR 4, aR 5, aR 6, aR 7, aR 8, aI x_numberings, aI 0, aI 0, aI 0, aI x_old, aI x_stuck, aI x_answer, aI x_badWhole, aR 9, aR 10, aR 11, aR 12, aR 13, aR 14, aR 15, aR 16, aR 17, aR 18, aI x_same, aI x_at], c1, c2, c3, c4, c5, c6, c7, c8, c9, c10, c11, c12, c13, c14, c15, c16, c17, c18]) rfl ?_
  refine aw_aload_n K d_RM_forget_15 rfl rfl ?_
  refine aw_iconst K d_RM_forget_16 rfl (v := 0) (by decide) ?_
  refine aw_putf K fp_RM_91 d_RM_forget_17 rfl rfl (Nat.le_of_ble_eq_true rfl) (am_fit_i _) (w' := [oC 5 [aI x_thrown, aI x_nodes, aI x_room, aI x_states, aI x_kinds, aI x_rules, aR 1, aR 2, aR 3, aR 4, aR 5, aR 6, aR 7, aR 8, aI x_numberings, aI 0, aI 0, aI 0, aI 0, aI x_stuck, aI x_answer, aI x_badWhole, aR 9, aR 10, aR 11, aR 12, aR 13, aR 14, aR 15, aR 16, aR 17, aR 18, aI x_same, aI x_at], c1, c2, c3, c4, c5, c6, c7, c8, c9, c10, c11, c12, c13, c14, c15, c16, c17, c18]) rfl ?_
  refine aw_aload_n K d_RM_forget_20 rfl rfl ?_
  refine aw_iconst K d_RM_forget_21 rfl (v := 0) (by decide) ?_
  refine aw_putf K fp_RM_94 d_RM_forget_22 rfl rfl (Nat.le_of_ble_eq_true rfl) (am_fit_i _) (w' := [oC 5 [aI x_thrown, aI x_nodes, aI x_room, aI x_states, aI x_kinds, aI x_rules, aR 1, aR 2, aR 3, aR 4, aR 5, aR 6, aR 7, aR 8, aI x_numberings, aI 0, aI 0, aI 0, aI 0, aI 0, aI x_answer, aI x_badWhole, aR 9, aR 10, aR 11, aR 12, aR 13, aR 14, aR 15, aR 16, aR 17, aR 18, aI x_same, aI x_at], c1, c2, c3, c4, c5, c6, c7, c8, c9, c10, c11, c12, c13, c14, c15, c16, c17, c18]) rfl ?_
  refine aw_aload_n K d_RM_forget_25 rfl rfl ?_
  refine aw_iconst K d_RM_forget_26 rfl (v := 0) (by decide) ?_
  refine aw_putf K fp_RM_97 d_RM_forget_27 rfl rfl (Nat.le_of_ble_eq_true rfl) (am_fit_i _) (w' := [oC 5 [aI x_thrown, aI x_nodes, aI x_room, aI x_states, aI x_kinds, aI x_rules, aR 1, aR 2, aR 3, aR 4, aR 5, aR 6, aR 7, aR 8, aI x_numberings, aI 0, aI 0, aI 0, aI 0, aI 0, aI 0, aI x_badWhole, aR 9, aR 10, aR 11, aR 12, aR 13, aR 14, aR 15, aR 16, aR 17, aR 18, aI x_same, aI x_at], c1, c2, c3, c4, c5, c6, c7, c8, c9, c10, c11, c12, c13, c14, c15, c16, c17, c18]) rfl ?_
  refine aw_aload_n K d_RM_forget_30 rfl rfl ?_
  refine aw_iconst K d_RM_forget_31 rfl (v := (-1)) (by decide) ?_
  refine aw_putf K fp_RM_100 d_RM_forget_32 rfl rfl (Nat.le_of_ble_eq_true rfl) (am_fit_i _) (w' := [oC 5 [aI x_thrown, aI x_nodes, aI x_room, aI x_states, aI x_kinds, aI x_rules, aR 1, aR 2, aR 3, aR 4, aR 5, aR 6, aR 7, aR 8, aI x_numberings, aI 0, aI 0, aI 0, aI 0, aI 0, aI 0, aI ((-1)), aR 9, aR 10, aR 11, aR 12, aR 13, aR 14, aR 15, aR 16, aR 17, aR 18, aI x_same, aI x_at], c1, c2, c3, c4, c5, c6, c7, c8, c9, c10, c11, c12, c13, c14, c15, c16, c17, c18]) rfl ?_
  exact aw_vret K hr d_RM_forget_35 h
set_option maxRecDepth 20000 in
theorem x_RM_state_0 {X : am_X} {dd bc bs : Nat} (K : am_ok X b_RM_state R_RM 1 dd) {post : Option am_V → List am_C → Prop} (hr : am_rt X (some .int) post) {x_thrown x_nodes x_room x_states x_kinds x_rules x_numberings x_wholes x_gone x_steps x_old x_stuck x_answer x_badWhole x_same x_at : Int32} {c1 c2 c3 c4 c5 c6 c7 c8 c9 c10 c11 c12 c13 c14 c15 c16 c17 c18 : am_C}
    (h : (¬ x_states = 8 → AW X 15 [some (aR 0)] [aI 0, aR 0] [oC 5 [aI x_thrown, aI x_nodes, aI x_room, aI x_states, aI x_kinds, aI x_rules, aR 1, aR 2, aR 3, aR 4, aR 5, aR 6, aR 7, aR 8, aI x_numberings, aI x_wholes, aI x_gone, aI x_steps, aI x_old, aI x_stuck, aI x_answer, aI x_badWhole, aR 9, aR 10, aR 11, aR 12, aR 13, aR 14, aR 15, aR 16, aR 17, aR 18, aI x_same, aI x_at], c1, c2, c3, c4, c5, c6, c7, c8, c9, c10, c11, c12, c13, c14, c15, c16, c17, c18] bc bs) ∧ (x_states = 8 → AW X 15 [some (aR 0)] [aI 1, aR 0] [oC 5 [aI x_thrown, aI x_nodes, aI x_room, aI x_states, aI x_kinds, aI x_rules, aR 1, aR 2, aR 3, aR 4, aR 5, aR 6, aR 7, aR 8, aI x_numberings, aI x_wholes, aI x_gone, aI x_steps, aI x_old, aI x_stuck, aI x_answer, aI x_badWhole, aR 9, aR 10, aR 11, aR 12, aR 13, aR 14, aR 15, aR 16, aR 17, aR 18, aI x_same, aI x_at], c1, c2, c3, c4, c5, c6, c7, c8, c9, c10, c11, c12, c13, c14, c15, c16, c17, c18] bc bs)) :
    AW X 0 [some (aR 0)] [] [oC 5 [aI x_thrown, aI x_nodes, aI x_room, aI x_states, aI x_kinds, aI x_rules, aR 1, aR 2, aR 3, aR 4, aR 5, aR 6, aR 7, aR 8, aI x_numberings, aI x_wholes, aI x_gone, aI x_steps, aI x_old, aI x_stuck, aI x_answer, aI x_badWhole, aR 9, aR 10, aR 11, aR 12, aR 13, aR 14, aR 15, aR 16, aR 17, aR 18, aI x_same, aI x_at], c1, c2, c3, c4, c5, c6, c7, c8, c9, c10, c11, c12, c13, c14, c15, c16, c17, c18] bc bs := by
  refine aw_aload_n K d_RM_state_0 rfl rfl ?_
  refine aw_aload_n K d_RM_state_1 rfl rfl ?_
  refine aw_getf K fd_RM_7 d_RM_state_2 rfl rfl rfl ?_
  refine aw_bipush K d_RM_state_5 rfl (v := 8) (by decide) ?_
  refine aw_icmp_ne K d_RM_state_7 (t := 14) (by decide) rfl (fun q => ?_) (fun q => ?_)
  · replace h := h.1 q
    refine aw_iconst K d_RM_state_14 rfl (v := 0) (by decide) ?_
    exact h
  · replace h := h.2 q
    refine aw_iconst K d_RM_state_10 rfl (v := 1) (by decide) ?_
    refine aw_goto K d_RM_state_11 (n := 15) (by decide) ?_
    exact h
set_option maxRecDepth 20000 in
theorem x_RM_state_15 {X : am_X} {dd bc bs : Nat} (K : am_ok X b_RM_state R_RM 1 dd) {post : Option am_V → List am_C → Prop} (hr : am_rt X (some .int) post) {sp_RM_throwing : am_S} {dd_RM_throwing : Nat} (c_RM_throwing : Con y_RM_throwing b_RM_throwing 3 (some .boolean) dd_RM_throwing 0 0 false sp_RM_throwing) (hdd_RM_throwing : dd_RM_throwing + 1 ≤ dd) {s0 x_thrown x_nodes x_room x_states x_kinds x_rules x_numberings x_wholes x_gone x_steps x_old x_stuck x_answer x_badWhole x_same x_at : Int32} {c1 c2 c3 c4 c5 c6 c7 c8 c9 c10 c11 c12 c13 c14 c15 c16 c17 c18 : am_C}
    (h : sp_RM_throwing [aR 0, aI s0, aI 0] [oC 5 [aI x_thrown, aI x_nodes, aI x_room, aI x_states, aI x_kinds, aI x_rules, aR 1, aR 2, aR 3, aR 4, aR 5, aR 6, aR 7, aR 8, aI x_numberings, aI x_wholes, aI x_gone, aI x_steps, aI x_old, aI x_stuck, aI x_answer, aI x_badWhole, aR 9, aR 10, aR 11, aR 12, aR 13, aR 14, aR 15, aR 16, aR 17, aR 18, aI x_same, aI x_at], c1, c2, c3, c4, c5, c6, c7, c8, c9, c10, c11, c12, c13, c14, c15, c16, c17, c18] (fun rv w' => AW X 19 [some (aR 0)] (rv.toList ++ []) w' bc bs)) :
    AW X 15 [some (aR 0)] [aI s0, aR 0] [oC 5 [aI x_thrown, aI x_nodes, aI x_room, aI x_states, aI x_kinds, aI x_rules, aR 1, aR 2, aR 3, aR 4, aR 5, aR 6, aR 7, aR 8, aI x_numberings, aI x_wholes, aI x_gone, aI x_steps, aI x_old, aI x_stuck, aI x_answer, aI x_badWhole, aR 9, aR 10, aR 11, aR 12, aR 13, aR 14, aR 15, aR 16, aR 17, aR 18, aI x_same, aI x_at], c1, c2, c3, c4, c5, c6, c7, c8, c9, c10, c11, c12, c13, c14, c15, c16, c17, c18] bc bs := by
  refine aw_iconst K d_RM_state_15 rfl (v := 0) (by decide) ?_
  exact aw_callV K c_RM_throwing cb_RM_103 ci_RM_throwing cs_RM_throwing hdd_RM_throwing (k := 0) rfl rfl d_RM_state_16 rfl (av := [aI s0, aI 0]) rfl (Nat.le_of_ble_eq_true rfl) h (fun rv w' hF => hF)
set_option maxRecDepth 20000 in
theorem x_RM_state_19 {X : am_X} {dd bc bs : Nat} (K : am_ok X b_RM_state R_RM 1 dd) {post : Option am_V → List am_C → Prop} (hr : am_rt X (some .int) post) {sp_RM_forget : am_S} {dd_RM_forget : Nat} (c_RM_forget : Con y_RM_forget b_RM_forget 1 none dd_RM_forget 0 0 false sp_RM_forget) (hdd_RM_forget : dd_RM_forget + 1 ≤ dd) {s0 x_thrown x_nodes x_room x_states x_kinds x_rules x_numberings x_wholes x_gone x_steps x_old x_stuck x_answer x_badWhole x_same x_at : Int32} {c1 c2 c3 c4 c5 c6 c7 c8 c9 c10 c11 c12 c13 c14 c15 c16 c17 c18 : am_C}
    (h : (s0 = 0 → sp_RM_forget [aR 0] [oC 5 [aI x_thrown, aI x_nodes, aI x_room, aI x_states, aI x_kinds, aI x_rules, aR 1, aR 2, aR 3, aR 4, aR 5, aR 6, aR 7, aR 8, aI x_numberings, aI x_wholes, aI x_gone, aI x_steps, aI x_old, aI x_stuck, aI x_answer, aI x_badWhole, aR 9, aR 10, aR 11, aR 12, aR 13, aR 14, aR 15, aR 16, aR 17, aR 18, aI x_same, aI x_at], c1, c2, c3, c4, c5, c6, c7, c8, c9, c10, c11, c12, c13, c14, c15, c16, c17, c18] (fun rv w' => AW X 28 [some (aR 0)] (rv.toList ++ []) w' bc bs)) ∧ (¬ s0 = 0 → post (some (aI 0)) [oC 5 [aI x_thrown, aI x_nodes, aI x_room, aI x_states, aI x_kinds, aI x_rules, aR 1, aR 2, aR 3, aR 4, aR 5, aR 6, aR 7, aR 8, aI x_numberings, aI x_wholes, aI x_gone, aI x_steps, aI x_old, aI x_stuck, aI x_answer, aI x_badWhole, aR 9, aR 10, aR 11, aR 12, aR 13, aR 14, aR 15, aR 16, aR 17, aR 18, aI x_same, aI x_at], c1, c2, c3, c4, c5, c6, c7, c8, c9, c10, c11, c12, c13, c14, c15, c16, c17, c18])) :
    AW X 19 [some (aR 0)] [aI s0] [oC 5 [aI x_thrown, aI x_nodes, aI x_room, aI x_states, aI x_kinds, aI x_rules, aR 1, aR 2, aR 3, aR 4, aR 5, aR 6, aR 7, aR 8, aI x_numberings, aI x_wholes, aI x_gone, aI x_steps, aI x_old, aI x_stuck, aI x_answer, aI x_badWhole, aR 9, aR 10, aR 11, aR 12, aR 13, aR 14, aR 15, aR 16, aR 17, aR 18, aI x_same, aI x_at], c1, c2, c3, c4, c5, c6, c7, c8, c9, c10, c11, c12, c13, c14, c15, c16, c17, c18] bc bs := by
  refine aw_if_eq K d_RM_state_19 (t := 24) (by decide) rfl (fun q => ?_) (fun q => ?_)
  · replace h := h.1 q
    refine aw_aload_n K d_RM_state_24 rfl rfl ?_
    exact aw_callV K c_RM_forget cb_RM_107 ci_RM_forget cs_RM_forget hdd_RM_forget (k := 0) rfl rfl d_RM_state_25 rfl (av := []) rfl (Nat.le_of_ble_eq_true rfl) h (fun rv w' hF => hF)
  · replace h := h.2 q
    refine aw_iconst K d_RM_state_22 rfl (v := 0) (by decide) ?_
    exact aw_iret K hr d_RM_state_23 h
set_option maxRecDepth 20000 in
theorem x_RM_state_28 {X : am_X} {dd bc bs : Nat} (K : am_ok X b_RM_state R_RM 1 dd) {post : Option am_V → List am_C → Prop} (hr : am_rt X (some .int) post) {x_thrown x_nodes x_room x_states x_kinds x_rules x_numberings x_wholes x_gone x_steps x_old x_stuck x_answer x_badWhole x_same x_at : Int32} {c1 c2 c3 c4 c5 c6 c7 c8 c9 c10 c11 c12 c13 c14 c15 c16 c17 c18 : am_C}
    (h : post (some (aI ((x_states + (1 : Int32)) - (1 : Int32)))) [oC 5 [aI x_thrown, aI x_nodes, aI x_room, aI (x_states + (1 : Int32)), aI x_kinds, aI x_rules, aR 1, aR 2, aR 3, aR 4, aR 5, aR 6, aR 7, aR 8, aI x_numberings, aI x_wholes, aI x_gone, aI x_steps, aI x_old, aI x_stuck, aI x_answer, aI x_badWhole, aR 9, aR 10, aR 11, aR 12, aR 13, aR 14, aR 15, aR 16, aR 17, aR 18, aI x_same, aI x_at], c1, c2, c3, c4, c5, c6, c7, c8, c9, c10, c11, c12, c13, c14, c15, c16, c17, c18]) :
    AW X 28 [some (aR 0)] [] [oC 5 [aI x_thrown, aI x_nodes, aI x_room, aI x_states, aI x_kinds, aI x_rules, aR 1, aR 2, aR 3, aR 4, aR 5, aR 6, aR 7, aR 8, aI x_numberings, aI x_wholes, aI x_gone, aI x_steps, aI x_old, aI x_stuck, aI x_answer, aI x_badWhole, aR 9, aR 10, aR 11, aR 12, aR 13, aR 14, aR 15, aR 16, aR 17, aR 18, aI x_same, aI x_at], c1, c2, c3, c4, c5, c6, c7, c8, c9, c10, c11, c12, c13, c14, c15, c16, c17, c18] bc bs := by
  refine aw_aload_n K d_RM_state_28 rfl rfl ?_
  refine aw_dup K d_RM_state_29 rfl (fun _ e => nomatch e) ?_
  refine aw_getf K fd_RM_7 d_RM_state_30 rfl rfl rfl ?_
  refine aw_iconst K d_RM_state_33 rfl (v := 1) (by decide) ?_
  refine aw_iadd K d_RM_state_34 rfl ?_
  refine aw_putf K fp_RM_7 d_RM_state_35 rfl rfl (Nat.le_of_ble_eq_true rfl) (am_fit_i _) (w' := [oC 5 [aI x_thrown, aI x_nodes, aI x_room, aI (x_states + (1 : Int32)), aI x_kinds, aI x_rules, aR 1, aR 2, aR 3, aR 4, aR 5, aR 6, aR 7, aR 8, aI x_numberings, aI x_wholes, aI x_gone, aI x_steps, aI x_old, aI x_stuck, aI x_answer, aI x_badWhole, aR 9, aR 10, aR 11, aR 12, aR 13, aR 14, aR 15, aR 16, aR 17, aR 18, aI x_same, aI x_at], c1, c2, c3, c4, c5, c6, c7, c8, c9, c10, c11, c12, c13, c14, c15, c16, c17, c18]) rfl ?_
  refine aw_aload_n K d_RM_state_38 rfl rfl ?_
  refine aw_getf K fd_RM_7 d_RM_state_39 rfl rfl rfl ?_
  refine aw_iconst K d_RM_state_42 rfl (v := 1) (by decide) ?_
  refine aw_isub K d_RM_state_43 rfl ?_
  exact aw_iret K hr d_RM_state_44 h
set_option maxRecDepth 20000 in
theorem x_RM_message_0 {X : am_X} {dd bc bs : Nat} (K : am_ok X b_RM_message R_RM 1 dd) {post : Option am_V → List am_C → Prop} (hr : am_rt X (some .int) post) {x_thrown x_nodes x_room x_states x_kinds x_rules x_numberings x_wholes x_gone x_steps x_old x_stuck x_answer x_badWhole x_same x_at : Int32} {c1 c2 c3 c4 c5 c6 c7 c8 c9 c10 c11 c12 c13 c14 c15 c16 c17 c18 : am_C}
    (h : (¬ x_kinds = 6 → AW X 15 [some (aR 0)] [aI 0, aR 0] [oC 5 [aI x_thrown, aI x_nodes, aI x_room, aI x_states, aI x_kinds, aI x_rules, aR 1, aR 2, aR 3, aR 4, aR 5, aR 6, aR 7, aR 8, aI x_numberings, aI x_wholes, aI x_gone, aI x_steps, aI x_old, aI x_stuck, aI x_answer, aI x_badWhole, aR 9, aR 10, aR 11, aR 12, aR 13, aR 14, aR 15, aR 16, aR 17, aR 18, aI x_same, aI x_at], c1, c2, c3, c4, c5, c6, c7, c8, c9, c10, c11, c12, c13, c14, c15, c16, c17, c18] bc bs) ∧ (x_kinds = 6 → AW X 15 [some (aR 0)] [aI 1, aR 0] [oC 5 [aI x_thrown, aI x_nodes, aI x_room, aI x_states, aI x_kinds, aI x_rules, aR 1, aR 2, aR 3, aR 4, aR 5, aR 6, aR 7, aR 8, aI x_numberings, aI x_wholes, aI x_gone, aI x_steps, aI x_old, aI x_stuck, aI x_answer, aI x_badWhole, aR 9, aR 10, aR 11, aR 12, aR 13, aR 14, aR 15, aR 16, aR 17, aR 18, aI x_same, aI x_at], c1, c2, c3, c4, c5, c6, c7, c8, c9, c10, c11, c12, c13, c14, c15, c16, c17, c18] bc bs)) :
    AW X 0 [some (aR 0)] [] [oC 5 [aI x_thrown, aI x_nodes, aI x_room, aI x_states, aI x_kinds, aI x_rules, aR 1, aR 2, aR 3, aR 4, aR 5, aR 6, aR 7, aR 8, aI x_numberings, aI x_wholes, aI x_gone, aI x_steps, aI x_old, aI x_stuck, aI x_answer, aI x_badWhole, aR 9, aR 10, aR 11, aR 12, aR 13, aR 14, aR 15, aR 16, aR 17, aR 18, aI x_same, aI x_at], c1, c2, c3, c4, c5, c6, c7, c8, c9, c10, c11, c12, c13, c14, c15, c16, c17, c18] bc bs := by
  refine aw_aload_n K d_RM_message_0 rfl rfl ?_
  refine aw_aload_n K d_RM_message_1 rfl rfl ?_
  refine aw_getf K fd_RM_110 d_RM_message_2 rfl rfl rfl ?_
  refine aw_bipush K d_RM_message_5 rfl (v := 6) (by decide) ?_
  refine aw_icmp_ne K d_RM_message_7 (t := 14) (by decide) rfl (fun q => ?_) (fun q => ?_)
  · replace h := h.1 q
    refine aw_iconst K d_RM_message_14 rfl (v := 0) (by decide) ?_
    exact h
  · replace h := h.2 q
    refine aw_iconst K d_RM_message_10 rfl (v := 1) (by decide) ?_
    refine aw_goto K d_RM_message_11 (n := 15) (by decide) ?_
    exact h
set_option maxRecDepth 20000 in
theorem x_RM_message_15 {X : am_X} {dd bc bs : Nat} (K : am_ok X b_RM_message R_RM 1 dd) {post : Option am_V → List am_C → Prop} (hr : am_rt X (some .int) post) {sp_RM_throwing : am_S} {dd_RM_throwing : Nat} (c_RM_throwing : Con y_RM_throwing b_RM_throwing 3 (some .boolean) dd_RM_throwing 0 0 false sp_RM_throwing) (hdd_RM_throwing : dd_RM_throwing + 1 ≤ dd) {s0 x_thrown x_nodes x_room x_states x_kinds x_rules x_numberings x_wholes x_gone x_steps x_old x_stuck x_answer x_badWhole x_same x_at : Int32} {c1 c2 c3 c4 c5 c6 c7 c8 c9 c10 c11 c12 c13 c14 c15 c16 c17 c18 : am_C}
    (h : sp_RM_throwing [aR 0, aI s0, aI 0] [oC 5 [aI x_thrown, aI x_nodes, aI x_room, aI x_states, aI x_kinds, aI x_rules, aR 1, aR 2, aR 3, aR 4, aR 5, aR 6, aR 7, aR 8, aI x_numberings, aI x_wholes, aI x_gone, aI x_steps, aI x_old, aI x_stuck, aI x_answer, aI x_badWhole, aR 9, aR 10, aR 11, aR 12, aR 13, aR 14, aR 15, aR 16, aR 17, aR 18, aI x_same, aI x_at], c1, c2, c3, c4, c5, c6, c7, c8, c9, c10, c11, c12, c13, c14, c15, c16, c17, c18] (fun rv w' => AW X 19 [some (aR 0)] (rv.toList ++ []) w' bc bs)) :
    AW X 15 [some (aR 0)] [aI s0, aR 0] [oC 5 [aI x_thrown, aI x_nodes, aI x_room, aI x_states, aI x_kinds, aI x_rules, aR 1, aR 2, aR 3, aR 4, aR 5, aR 6, aR 7, aR 8, aI x_numberings, aI x_wholes, aI x_gone, aI x_steps, aI x_old, aI x_stuck, aI x_answer, aI x_badWhole, aR 9, aR 10, aR 11, aR 12, aR 13, aR 14, aR 15, aR 16, aR 17, aR 18, aI x_same, aI x_at], c1, c2, c3, c4, c5, c6, c7, c8, c9, c10, c11, c12, c13, c14, c15, c16, c17, c18] bc bs := by
  refine aw_iconst K d_RM_message_15 rfl (v := 0) (by decide) ?_
  exact aw_callV K c_RM_throwing cb_RM_103 ci_RM_throwing cs_RM_throwing hdd_RM_throwing (k := 0) rfl rfl d_RM_message_16 rfl (av := [aI s0, aI 0]) rfl (Nat.le_of_ble_eq_true rfl) h (fun rv w' hF => hF)
set_option maxRecDepth 20000 in
theorem x_RM_message_19 {X : am_X} {dd bc bs : Nat} (K : am_ok X b_RM_message R_RM 1 dd) {post : Option am_V → List am_C → Prop} (hr : am_rt X (some .int) post) {sp_RM_forget : am_S} {dd_RM_forget : Nat} (c_RM_forget : Con y_RM_forget b_RM_forget 1 none dd_RM_forget 0 0 false sp_RM_forget) (hdd_RM_forget : dd_RM_forget + 1 ≤ dd) {s0 x_thrown x_nodes x_room x_states x_kinds x_rules x_numberings x_wholes x_gone x_steps x_old x_stuck x_answer x_badWhole x_same x_at : Int32} {c1 c2 c3 c4 c5 c6 c7 c8 c9 c10 c11 c12 c13 c14 c15 c16 c17 c18 : am_C}
    (h : (s0 = 0 → sp_RM_forget [aR 0] [oC 5 [aI x_thrown, aI x_nodes, aI x_room, aI x_states, aI x_kinds, aI x_rules, aR 1, aR 2, aR 3, aR 4, aR 5, aR 6, aR 7, aR 8, aI x_numberings, aI x_wholes, aI x_gone, aI x_steps, aI x_old, aI x_stuck, aI x_answer, aI x_badWhole, aR 9, aR 10, aR 11, aR 12, aR 13, aR 14, aR 15, aR 16, aR 17, aR 18, aI x_same, aI x_at], c1, c2, c3, c4, c5, c6, c7, c8, c9, c10, c11, c12, c13, c14, c15, c16, c17, c18] (fun rv w' => AW X 28 [some (aR 0)] (rv.toList ++ []) w' bc bs)) ∧ (¬ s0 = 0 → post (some (aI 0)) [oC 5 [aI x_thrown, aI x_nodes, aI x_room, aI x_states, aI x_kinds, aI x_rules, aR 1, aR 2, aR 3, aR 4, aR 5, aR 6, aR 7, aR 8, aI x_numberings, aI x_wholes, aI x_gone, aI x_steps, aI x_old, aI x_stuck, aI x_answer, aI x_badWhole, aR 9, aR 10, aR 11, aR 12, aR 13, aR 14, aR 15, aR 16, aR 17, aR 18, aI x_same, aI x_at], c1, c2, c3, c4, c5, c6, c7, c8, c9, c10, c11, c12, c13, c14, c15, c16, c17, c18])) :
    AW X 19 [some (aR 0)] [aI s0] [oC 5 [aI x_thrown, aI x_nodes, aI x_room, aI x_states, aI x_kinds, aI x_rules, aR 1, aR 2, aR 3, aR 4, aR 5, aR 6, aR 7, aR 8, aI x_numberings, aI x_wholes, aI x_gone, aI x_steps, aI x_old, aI x_stuck, aI x_answer, aI x_badWhole, aR 9, aR 10, aR 11, aR 12, aR 13, aR 14, aR 15, aR 16, aR 17, aR 18, aI x_same, aI x_at], c1, c2, c3, c4, c5, c6, c7, c8, c9, c10, c11, c12, c13, c14, c15, c16, c17, c18] bc bs := by
  refine aw_if_eq K d_RM_message_19 (t := 24) (by decide) rfl (fun q => ?_) (fun q => ?_)
  · replace h := h.1 q
    refine aw_aload_n K d_RM_message_24 rfl rfl ?_
    exact aw_callV K c_RM_forget cb_RM_107 ci_RM_forget cs_RM_forget hdd_RM_forget (k := 0) rfl rfl d_RM_message_25 rfl (av := []) rfl (Nat.le_of_ble_eq_true rfl) h (fun rv w' hF => hF)
  · replace h := h.2 q
    refine aw_iconst K d_RM_message_22 rfl (v := 0) (by decide) ?_
    exact aw_iret K hr d_RM_message_23 h
set_option maxRecDepth 20000 in
theorem x_RM_message_28 {X : am_X} {dd bc bs : Nat} (K : am_ok X b_RM_message R_RM 1 dd) {post : Option am_V → List am_C → Prop} (hr : am_rt X (some .int) post) {x_thrown x_nodes x_room x_states x_kinds x_rules x_numberings x_wholes x_gone x_steps x_old x_stuck x_answer x_badWhole x_same x_at : Int32} {c1 c2 c3 c4 c5 c6 c7 c8 c9 c10 c11 c12 c13 c14 c15 c16 c17 c18 : am_C}
    (h : post (some (aI ((x_kinds + (1 : Int32)) - (1 : Int32)))) [oC 5 [aI x_thrown, aI x_nodes, aI x_room, aI x_states, aI (x_kinds + (1 : Int32)), aI x_rules, aR 1, aR 2, aR 3, aR 4, aR 5, aR 6, aR 7, aR 8, aI x_numberings, aI x_wholes, aI x_gone, aI x_steps, aI x_old, aI x_stuck, aI x_answer, aI x_badWhole, aR 9, aR 10, aR 11, aR 12, aR 13, aR 14, aR 15, aR 16, aR 17, aR 18, aI x_same, aI x_at], c1, c2, c3, c4, c5, c6, c7, c8, c9, c10, c11, c12, c13, c14, c15, c16, c17, c18]) :
    AW X 28 [some (aR 0)] [] [oC 5 [aI x_thrown, aI x_nodes, aI x_room, aI x_states, aI x_kinds, aI x_rules, aR 1, aR 2, aR 3, aR 4, aR 5, aR 6, aR 7, aR 8, aI x_numberings, aI x_wholes, aI x_gone, aI x_steps, aI x_old, aI x_stuck, aI x_answer, aI x_badWhole, aR 9, aR 10, aR 11, aR 12, aR 13, aR 14, aR 15, aR 16, aR 17, aR 18, aI x_same, aI x_at], c1, c2, c3, c4, c5, c6, c7, c8, c9, c10, c11, c12, c13, c14, c15, c16, c17, c18] bc bs := by
  refine aw_aload_n K d_RM_message_28 rfl rfl ?_
  refine aw_dup K d_RM_message_29 rfl (fun _ e => nomatch e) ?_
  refine aw_getf K fd_RM_110 d_RM_message_30 rfl rfl rfl ?_
  refine aw_iconst K d_RM_message_33 rfl (v := 1) (by decide) ?_
  refine aw_iadd K d_RM_message_34 rfl ?_
  refine aw_putf K fp_RM_110 d_RM_message_35 rfl rfl (Nat.le_of_ble_eq_true rfl) (am_fit_i _) (w' := [oC 5 [aI x_thrown, aI x_nodes, aI x_room, aI x_states, aI (x_kinds + (1 : Int32)), aI x_rules, aR 1, aR 2, aR 3, aR 4, aR 5, aR 6, aR 7, aR 8, aI x_numberings, aI x_wholes, aI x_gone, aI x_steps, aI x_old, aI x_stuck, aI x_answer, aI x_badWhole, aR 9, aR 10, aR 11, aR 12, aR 13, aR 14, aR 15, aR 16, aR 17, aR 18, aI x_same, aI x_at], c1, c2, c3, c4, c5, c6, c7, c8, c9, c10, c11, c12, c13, c14, c15, c16, c17, c18]) rfl ?_
  refine aw_aload_n K d_RM_message_38 rfl rfl ?_
  refine aw_getf K fd_RM_110 d_RM_message_39 rfl rfl rfl ?_
  refine aw_iconst K d_RM_message_42 rfl (v := 1) (by decide) ?_
  refine aw_isub K d_RM_message_43 rfl ?_
  exact aw_iret K hr d_RM_message_44 h
set_option maxRecDepth 20000 in
theorem x_RM_rule_0 {X : am_X} {dd bc bs : Nat} (K : am_ok X b_RM_rule R_RM 4 dd) {post : Option am_V → List am_C → Prop} (hr : am_rt X (some .int) post) {sp_RM_isOf : am_S} {dd_RM_isOf : Nat} (c_RM_isOf : Con y_RM_isOf b_RM_isOf 2 (some .boolean) dd_RM_isOf 0 0 false sp_RM_isOf) (hdd_RM_isOf : dd_RM_isOf + 1 ≤ dd) {l1 l2 l3 x_thrown x_nodes x_room x_states x_kinds x_rules x_numberings x_wholes x_gone x_steps x_old x_stuck x_answer x_badWhole x_same x_at : Int32} {x_from x_event x_to x_sentMany : Nat → Int32} {c5 c6 c7 c8 c9 c10 c11 c12 c13 c14 c15 c16 c17 c18 : am_C}
    (h : sp_RM_isOf [aI l1, aI x_states] [oC 5 [aI x_thrown, aI x_nodes, aI x_room, aI x_states, aI x_kinds, aI x_rules, aR 1, aR 2, aR 3, aR 4, aR 5, aR 6, aR 7, aR 8, aI x_numberings, aI x_wholes, aI x_gone, aI x_steps, aI x_old, aI x_stuck, aI x_answer, aI x_badWhole, aR 9, aR 10, aR 11, aR 12, aR 13, aR 14, aR 15, aR 16, aR 17, aR 18, aI x_same, aI x_at], iC 40 x_from, iC 40 x_event, iC 40 x_to, iC 40 x_sentMany, c5, c6, c7, c8, c9, c10, c11, c12, c13, c14, c15, c16, c17, c18] (fun rv w' => AW X 9 [some (aR 0), some (aI l1), some (aI l2), some (aI l3)] (rv.toList ++ [aR 0]) w' bc bs)) :
    AW X 0 [some (aR 0), some (aI l1), some (aI l2), some (aI l3)] [] [oC 5 [aI x_thrown, aI x_nodes, aI x_room, aI x_states, aI x_kinds, aI x_rules, aR 1, aR 2, aR 3, aR 4, aR 5, aR 6, aR 7, aR 8, aI x_numberings, aI x_wholes, aI x_gone, aI x_steps, aI x_old, aI x_stuck, aI x_answer, aI x_badWhole, aR 9, aR 10, aR 11, aR 12, aR 13, aR 14, aR 15, aR 16, aR 17, aR 18, aI x_same, aI x_at], iC 40 x_from, iC 40 x_event, iC 40 x_to, iC 40 x_sentMany, c5, c6, c7, c8, c9, c10, c11, c12, c13, c14, c15, c16, c17, c18] bc bs := by
  refine aw_aload_n K d_RM_rule_0 rfl rfl ?_
  refine aw_iload_n K d_RM_rule_1 rfl rfl ?_
  refine aw_aload_n K d_RM_rule_2 rfl rfl ?_
  refine aw_getf K fd_RM_7 d_RM_rule_3 rfl rfl rfl ?_
  exact aw_callS K c_RM_isOf cb_RM_113 ct_RM_isOf hdd_RM_isOf d_RM_rule_6 rfl (av := [aI l1, aI x_states]) rfl (Nat.le_of_ble_eq_true rfl) h (fun rv w' hF => hF)
set_option maxRecDepth 20000 in
theorem x_RM_rule_9 {X : am_X} {dd bc bs : Nat} (K : am_ok X b_RM_rule R_RM 4 dd) {post : Option am_V → List am_C → Prop} (hr : am_rt X (some .int) post) {sp_RM_isOf : am_S} {dd_RM_isOf : Nat} (c_RM_isOf : Con y_RM_isOf b_RM_isOf 2 (some .boolean) dd_RM_isOf 0 0 false sp_RM_isOf) (hdd_RM_isOf : dd_RM_isOf + 1 ≤ dd) {l1 l2 l3 s0 x_thrown x_nodes x_room x_states x_kinds x_rules x_numberings x_wholes x_gone x_steps x_old x_stuck x_answer x_badWhole x_same x_at : Int32} {x_from x_event x_to x_sentMany : Nat → Int32} {c5 c6 c7 c8 c9 c10 c11 c12 c13 c14 c15 c16 c17 c18 : am_C}
    (h : (s0 = 0 → AW X 39 [some (aR 0), some (aI l1), some (aI l2), some (aI l3)] [aR 0] [oC 5 [aI x_thrown, aI x_nodes, aI x_room, aI x_states, aI x_kinds, aI x_rules, aR 1, aR 2, aR 3, aR 4, aR 5, aR 6, aR 7, aR 8, aI x_numberings, aI x_wholes, aI x_gone, aI x_steps, aI x_old, aI x_stuck, aI x_answer, aI x_badWhole, aR 9, aR 10, aR 11, aR 12, aR 13, aR 14, aR 15, aR 16, aR 17, aR 18, aI x_same, aI x_at], iC 40 x_from, iC 40 x_event, iC 40 x_to, iC 40 x_sentMany, c5, c6, c7, c8, c9, c10, c11, c12, c13, c14, c15, c16, c17, c18] bc bs) ∧ (¬ s0 = 0 → sp_RM_isOf [aI l3, aI x_states] [oC 5 [aI x_thrown, aI x_nodes, aI x_room, aI x_states, aI x_kinds, aI x_rules, aR 1, aR 2, aR 3, aR 4, aR 5, aR 6, aR 7, aR 8, aI x_numberings, aI x_wholes, aI x_gone, aI x_steps, aI x_old, aI x_stuck, aI x_answer, aI x_badWhole, aR 9, aR 10, aR 11, aR 12, aR 13, aR 14, aR 15, aR 16, aR 17, aR 18, aI x_same, aI x_at], iC 40 x_from, iC 40 x_event, iC 40 x_to, iC 40 x_sentMany, c5, c6, c7, c8, c9, c10, c11, c12, c13, c14, c15, c16, c17, c18] (fun rv w' => AW X 20 [some (aR 0), some (aI l1), some (aI l2), some (aI l3)] (rv.toList ++ [aR 0]) w' bc bs))) :
    AW X 9 [some (aR 0), some (aI l1), some (aI l2), some (aI l3)] [aI s0, aR 0] [oC 5 [aI x_thrown, aI x_nodes, aI x_room, aI x_states, aI x_kinds, aI x_rules, aR 1, aR 2, aR 3, aR 4, aR 5, aR 6, aR 7, aR 8, aI x_numberings, aI x_wholes, aI x_gone, aI x_steps, aI x_old, aI x_stuck, aI x_answer, aI x_badWhole, aR 9, aR 10, aR 11, aR 12, aR 13, aR 14, aR 15, aR 16, aR 17, aR 18, aI x_same, aI x_at], iC 40 x_from, iC 40 x_event, iC 40 x_to, iC 40 x_sentMany, c5, c6, c7, c8, c9, c10, c11, c12, c13, c14, c15, c16, c17, c18] bc bs := by
  refine aw_if_eq K d_RM_rule_9 (t := 39) (by decide) rfl (fun q => ?_) (fun q => ?_)
  · replace h := h.1 q
    exact h
  · replace h := h.2 q
    refine aw_iload_n K d_RM_rule_12 rfl rfl ?_
    refine aw_aload_n K d_RM_rule_13 rfl rfl ?_
    refine aw_getf K fd_RM_7 d_RM_rule_14 rfl rfl rfl ?_
    exact aw_callS K c_RM_isOf cb_RM_113 ct_RM_isOf hdd_RM_isOf d_RM_rule_17 rfl (av := [aI l3, aI x_states]) rfl (Nat.le_of_ble_eq_true rfl) h (fun rv w' hF => hF)
set_option maxRecDepth 20000 in
theorem x_RM_rule_20 {X : am_X} {dd bc bs : Nat} (K : am_ok X b_RM_rule R_RM 4 dd) {post : Option am_V → List am_C → Prop} (hr : am_rt X (some .int) post) {sp_RM_isOf : am_S} {dd_RM_isOf : Nat} (c_RM_isOf : Con y_RM_isOf b_RM_isOf 2 (some .boolean) dd_RM_isOf 0 0 false sp_RM_isOf) (hdd_RM_isOf : dd_RM_isOf + 1 ≤ dd) {l1 l2 l3 s0 x_thrown x_nodes x_room x_states x_kinds x_rules x_numberings x_wholes x_gone x_steps x_old x_stuck x_answer x_badWhole x_same x_at : Int32} {x_from x_event x_to x_sentMany : Nat → Int32} {c5 c6 c7 c8 c9 c10 c11 c12 c13 c14 c15 c16 c17 c18 : am_C}
    (h : (s0 = 0 → AW X 39 [some (aR 0), some (aI l1), some (aI l2), some (aI l3)] [aR 0] [oC 5 [aI x_thrown, aI x_nodes, aI x_room, aI x_states, aI x_kinds, aI x_rules, aR 1, aR 2, aR 3, aR 4, aR 5, aR 6, aR 7, aR 8, aI x_numberings, aI x_wholes, aI x_gone, aI x_steps, aI x_old, aI x_stuck, aI x_answer, aI x_badWhole, aR 9, aR 10, aR 11, aR 12, aR 13, aR 14, aR 15, aR 16, aR 17, aR 18, aI x_same, aI x_at], iC 40 x_from, iC 40 x_event, iC 40 x_to, iC 40 x_sentMany, c5, c6, c7, c8, c9, c10, c11, c12, c13, c14, c15, c16, c17, c18] bc bs) ∧ (¬ s0 = 0 → (l2 = ((-1)) → AW X 43 [some (aR 0), some (aI l1), some (aI l2), some (aI l3)] [aR 0] [oC 5 [aI x_thrown, aI x_nodes, aI x_room, aI x_states, aI x_kinds, aI x_rules, aR 1, aR 2, aR 3, aR 4, aR 5, aR 6, aR 7, aR 8, aI x_numberings, aI x_wholes, aI x_gone, aI x_steps, aI x_old, aI x_stuck, aI x_answer, aI x_badWhole, aR 9, aR 10, aR 11, aR 12, aR 13, aR 14, aR 15, aR 16, aR 17, aR 18, aI x_same, aI x_at], iC 40 x_from, iC 40 x_event, iC 40 x_to, iC 40 x_sentMany, c5, c6, c7, c8, c9, c10, c11, c12, c13, c14, c15, c16, c17, c18] bc bs) ∧ (¬ l2 = ((-1)) → sp_RM_isOf [aI l2, aI x_kinds] [oC 5 [aI x_thrown, aI x_nodes, aI x_room, aI x_states, aI x_kinds, aI x_rules, aR 1, aR 2, aR 3, aR 4, aR 5, aR 6, aR 7, aR 8, aI x_numberings, aI x_wholes, aI x_gone, aI x_steps, aI x_old, aI x_stuck, aI x_answer, aI x_badWhole, aR 9, aR 10, aR 11, aR 12, aR 13, aR 14, aR 15, aR 16, aR 17, aR 18, aI x_same, aI x_at], iC 40 x_from, iC 40 x_event, iC 40 x_to, iC 40 x_sentMany, c5, c6, c7, c8, c9, c10, c11, c12, c13, c14, c15, c16, c17, c18] (fun rv w' => AW X 36 [some (aR 0), some (aI l1), some (aI l2), some (aI l3)] (rv.toList ++ [aR 0]) w' bc bs)))) :
    AW X 20 [some (aR 0), some (aI l1), some (aI l2), some (aI l3)] [aI s0, aR 0] [oC 5 [aI x_thrown, aI x_nodes, aI x_room, aI x_states, aI x_kinds, aI x_rules, aR 1, aR 2, aR 3, aR 4, aR 5, aR 6, aR 7, aR 8, aI x_numberings, aI x_wholes, aI x_gone, aI x_steps, aI x_old, aI x_stuck, aI x_answer, aI x_badWhole, aR 9, aR 10, aR 11, aR 12, aR 13, aR 14, aR 15, aR 16, aR 17, aR 18, aI x_same, aI x_at], iC 40 x_from, iC 40 x_event, iC 40 x_to, iC 40 x_sentMany, c5, c6, c7, c8, c9, c10, c11, c12, c13, c14, c15, c16, c17, c18] bc bs := by
  refine aw_if_eq K d_RM_rule_20 (t := 39) (by decide) rfl (fun q => ?_) (fun q => ?_)
  · replace h := h.1 q
    exact h
  · replace h := h.2 q
    refine aw_iload_n K d_RM_rule_23 rfl rfl ?_
    refine aw_iconst K d_RM_rule_24 rfl (v := (-1)) (by decide) ?_
    refine aw_icmp_eq K d_RM_rule_25 (t := 43) (by decide) rfl (fun q => ?_) (fun q => ?_)
    · replace h := h.1 q
      exact h
    · replace h := h.2 q
      refine aw_iload_n K d_RM_rule_28 rfl rfl ?_
      refine aw_aload_n K d_RM_rule_29 rfl rfl ?_
      refine aw_getf K fd_RM_110 d_RM_rule_30 rfl rfl rfl ?_
      exact aw_callS K c_RM_isOf cb_RM_113 ct_RM_isOf hdd_RM_isOf d_RM_rule_33 rfl (av := [aI l2, aI x_kinds]) rfl (Nat.le_of_ble_eq_true rfl) h (fun rv w' hF => hF)
set_option maxRecDepth 20000 in
theorem x_RM_rule_36 {X : am_X} {dd bc bs : Nat} (K : am_ok X b_RM_rule R_RM 4 dd) {post : Option am_V → List am_C → Prop} (hr : am_rt X (some .int) post) {l1 l2 l3 s0 x_thrown x_nodes x_room x_states x_kinds x_rules x_numberings x_wholes x_gone x_steps x_old x_stuck x_answer x_badWhole x_same x_at : Int32} {x_from x_event x_to x_sentMany : Nat → Int32} {c5 c6 c7 c8 c9 c10 c11 c12 c13 c14 c15 c16 c17 c18 : am_C}
    (h : (¬ s0 = 0 → AW X 43 [some (aR 0), some (aI l1), some (aI l2), some (aI l3)] [aR 0] [oC 5 [aI x_thrown, aI x_nodes, aI x_room, aI x_states, aI x_kinds, aI x_rules, aR 1, aR 2, aR 3, aR 4, aR 5, aR 6, aR 7, aR 8, aI x_numberings, aI x_wholes, aI x_gone, aI x_steps, aI x_old, aI x_stuck, aI x_answer, aI x_badWhole, aR 9, aR 10, aR 11, aR 12, aR 13, aR 14, aR 15, aR 16, aR 17, aR 18, aI x_same, aI x_at], iC 40 x_from, iC 40 x_event, iC 40 x_to, iC 40 x_sentMany, c5, c6, c7, c8, c9, c10, c11, c12, c13, c14, c15, c16, c17, c18] bc bs) ∧ (s0 = 0 → AW X 39 [some (aR 0), some (aI l1), some (aI l2), some (aI l3)] [aR 0] [oC 5 [aI x_thrown, aI x_nodes, aI x_room, aI x_states, aI x_kinds, aI x_rules, aR 1, aR 2, aR 3, aR 4, aR 5, aR 6, aR 7, aR 8, aI x_numberings, aI x_wholes, aI x_gone, aI x_steps, aI x_old, aI x_stuck, aI x_answer, aI x_badWhole, aR 9, aR 10, aR 11, aR 12, aR 13, aR 14, aR 15, aR 16, aR 17, aR 18, aI x_same, aI x_at], iC 40 x_from, iC 40 x_event, iC 40 x_to, iC 40 x_sentMany, c5, c6, c7, c8, c9, c10, c11, c12, c13, c14, c15, c16, c17, c18] bc bs)) :
    AW X 36 [some (aR 0), some (aI l1), some (aI l2), some (aI l3)] [aI s0, aR 0] [oC 5 [aI x_thrown, aI x_nodes, aI x_room, aI x_states, aI x_kinds, aI x_rules, aR 1, aR 2, aR 3, aR 4, aR 5, aR 6, aR 7, aR 8, aI x_numberings, aI x_wholes, aI x_gone, aI x_steps, aI x_old, aI x_stuck, aI x_answer, aI x_badWhole, aR 9, aR 10, aR 11, aR 12, aR 13, aR 14, aR 15, aR 16, aR 17, aR 18, aI x_same, aI x_at], iC 40 x_from, iC 40 x_event, iC 40 x_to, iC 40 x_sentMany, c5, c6, c7, c8, c9, c10, c11, c12, c13, c14, c15, c16, c17, c18] bc bs := by
  refine aw_if_ne K d_RM_rule_36 (t := 43) (by decide) rfl (fun q => ?_) (fun q => ?_)
  · replace h := h.1 q
    exact h
  · replace h := h.2 q
    exact h
set_option maxRecDepth 20000 in
theorem x_RM_rule_39 {X : am_X} {dd bc bs : Nat} (K : am_ok X b_RM_rule R_RM 4 dd) {post : Option am_V → List am_C → Prop} (hr : am_rt X (some .int) post) {l1 l2 l3 x_thrown x_nodes x_room x_states x_kinds x_rules x_numberings x_wholes x_gone x_steps x_old x_stuck x_answer x_badWhole x_same x_at : Int32} {x_from x_event x_to x_sentMany : Nat → Int32} {c5 c6 c7 c8 c9 c10 c11 c12 c13 c14 c15 c16 c17 c18 : am_C}
    (h : AW X 44 [some (aR 0), some (aI l1), some (aI l2), some (aI l3)] [aI 1, aR 0] [oC 5 [aI x_thrown, aI x_nodes, aI x_room, aI x_states, aI x_kinds, aI x_rules, aR 1, aR 2, aR 3, aR 4, aR 5, aR 6, aR 7, aR 8, aI x_numberings, aI x_wholes, aI x_gone, aI x_steps, aI x_old, aI x_stuck, aI x_answer, aI x_badWhole, aR 9, aR 10, aR 11, aR 12, aR 13, aR 14, aR 15, aR 16, aR 17, aR 18, aI x_same, aI x_at], iC 40 x_from, iC 40 x_event, iC 40 x_to, iC 40 x_sentMany, c5, c6, c7, c8, c9, c10, c11, c12, c13, c14, c15, c16, c17, c18] bc bs) :
    AW X 39 [some (aR 0), some (aI l1), some (aI l2), some (aI l3)] [aR 0] [oC 5 [aI x_thrown, aI x_nodes, aI x_room, aI x_states, aI x_kinds, aI x_rules, aR 1, aR 2, aR 3, aR 4, aR 5, aR 6, aR 7, aR 8, aI x_numberings, aI x_wholes, aI x_gone, aI x_steps, aI x_old, aI x_stuck, aI x_answer, aI x_badWhole, aR 9, aR 10, aR 11, aR 12, aR 13, aR 14, aR 15, aR 16, aR 17, aR 18, aI x_same, aI x_at], iC 40 x_from, iC 40 x_event, iC 40 x_to, iC 40 x_sentMany, c5, c6, c7, c8, c9, c10, c11, c12, c13, c14, c15, c16, c17, c18] bc bs := by
  refine aw_iconst K d_RM_rule_39 rfl (v := 1) (by decide) ?_
  refine aw_goto K d_RM_rule_40 (n := 44) (by decide) ?_
  exact h
set_option maxRecDepth 20000 in
theorem x_RM_rule_43 {X : am_X} {dd bc bs : Nat} (K : am_ok X b_RM_rule R_RM 4 dd) {post : Option am_V → List am_C → Prop} (hr : am_rt X (some .int) post) {l1 l2 l3 x_thrown x_nodes x_room x_states x_kinds x_rules x_numberings x_wholes x_gone x_steps x_old x_stuck x_answer x_badWhole x_same x_at : Int32} {x_from x_event x_to x_sentMany : Nat → Int32} {c5 c6 c7 c8 c9 c10 c11 c12 c13 c14 c15 c16 c17 c18 : am_C}
    (h : AW X 44 [some (aR 0), some (aI l1), some (aI l2), some (aI l3)] [aI 0, aR 0] [oC 5 [aI x_thrown, aI x_nodes, aI x_room, aI x_states, aI x_kinds, aI x_rules, aR 1, aR 2, aR 3, aR 4, aR 5, aR 6, aR 7, aR 8, aI x_numberings, aI x_wholes, aI x_gone, aI x_steps, aI x_old, aI x_stuck, aI x_answer, aI x_badWhole, aR 9, aR 10, aR 11, aR 12, aR 13, aR 14, aR 15, aR 16, aR 17, aR 18, aI x_same, aI x_at], iC 40 x_from, iC 40 x_event, iC 40 x_to, iC 40 x_sentMany, c5, c6, c7, c8, c9, c10, c11, c12, c13, c14, c15, c16, c17, c18] bc bs) :
    AW X 43 [some (aR 0), some (aI l1), some (aI l2), some (aI l3)] [aR 0] [oC 5 [aI x_thrown, aI x_nodes, aI x_room, aI x_states, aI x_kinds, aI x_rules, aR 1, aR 2, aR 3, aR 4, aR 5, aR 6, aR 7, aR 8, aI x_numberings, aI x_wholes, aI x_gone, aI x_steps, aI x_old, aI x_stuck, aI x_answer, aI x_badWhole, aR 9, aR 10, aR 11, aR 12, aR 13, aR 14, aR 15, aR 16, aR 17, aR 18, aI x_same, aI x_at], iC 40 x_from, iC 40 x_event, iC 40 x_to, iC 40 x_sentMany, c5, c6, c7, c8, c9, c10, c11, c12, c13, c14, c15, c16, c17, c18] bc bs := by
  refine aw_iconst K d_RM_rule_43 rfl (v := 0) (by decide) ?_
  exact h
set_option maxRecDepth 20000 in
theorem x_RM_rule_44 {X : am_X} {dd bc bs : Nat} (K : am_ok X b_RM_rule R_RM 4 dd) {post : Option am_V → List am_C → Prop} (hr : am_rt X (some .int) post) {l1 l2 l3 s0 x_thrown x_nodes x_room x_states x_kinds x_rules x_numberings x_wholes x_gone x_steps x_old x_stuck x_answer x_badWhole x_same x_at : Int32} {x_from x_event x_to x_sentMany : Nat → Int32} {c5 c6 c7 c8 c9 c10 c11 c12 c13 c14 c15 c16 c17 c18 : am_C}
    (h : (¬ x_rules = 40 → AW X 58 [some (aR 0), some (aI l1), some (aI l2), some (aI l3)] [aI 0, aI s0, aR 0] [oC 5 [aI x_thrown, aI x_nodes, aI x_room, aI x_states, aI x_kinds, aI x_rules, aR 1, aR 2, aR 3, aR 4, aR 5, aR 6, aR 7, aR 8, aI x_numberings, aI x_wholes, aI x_gone, aI x_steps, aI x_old, aI x_stuck, aI x_answer, aI x_badWhole, aR 9, aR 10, aR 11, aR 12, aR 13, aR 14, aR 15, aR 16, aR 17, aR 18, aI x_same, aI x_at], iC 40 x_from, iC 40 x_event, iC 40 x_to, iC 40 x_sentMany, c5, c6, c7, c8, c9, c10, c11, c12, c13, c14, c15, c16, c17, c18] bc bs) ∧ (x_rules = 40 → AW X 58 [some (aR 0), some (aI l1), some (aI l2), some (aI l3)] [aI 1, aI s0, aR 0] [oC 5 [aI x_thrown, aI x_nodes, aI x_room, aI x_states, aI x_kinds, aI x_rules, aR 1, aR 2, aR 3, aR 4, aR 5, aR 6, aR 7, aR 8, aI x_numberings, aI x_wholes, aI x_gone, aI x_steps, aI x_old, aI x_stuck, aI x_answer, aI x_badWhole, aR 9, aR 10, aR 11, aR 12, aR 13, aR 14, aR 15, aR 16, aR 17, aR 18, aI x_same, aI x_at], iC 40 x_from, iC 40 x_event, iC 40 x_to, iC 40 x_sentMany, c5, c6, c7, c8, c9, c10, c11, c12, c13, c14, c15, c16, c17, c18] bc bs)) :
    AW X 44 [some (aR 0), some (aI l1), some (aI l2), some (aI l3)] [aI s0, aR 0] [oC 5 [aI x_thrown, aI x_nodes, aI x_room, aI x_states, aI x_kinds, aI x_rules, aR 1, aR 2, aR 3, aR 4, aR 5, aR 6, aR 7, aR 8, aI x_numberings, aI x_wholes, aI x_gone, aI x_steps, aI x_old, aI x_stuck, aI x_answer, aI x_badWhole, aR 9, aR 10, aR 11, aR 12, aR 13, aR 14, aR 15, aR 16, aR 17, aR 18, aI x_same, aI x_at], iC 40 x_from, iC 40 x_event, iC 40 x_to, iC 40 x_sentMany, c5, c6, c7, c8, c9, c10, c11, c12, c13, c14, c15, c16, c17, c18] bc bs := by
  refine aw_aload_n K d_RM_rule_44 rfl rfl ?_
  refine aw_getf K fd_RM_117 d_RM_rule_45 rfl rfl rfl ?_
  refine aw_bipush K d_RM_rule_48 rfl (v := 40) (by decide) ?_
  refine aw_icmp_ne K d_RM_rule_50 (t := 57) (by decide) rfl (fun q => ?_) (fun q => ?_)
  · replace h := h.1 q
    refine aw_iconst K d_RM_rule_57 rfl (v := 0) (by decide) ?_
    exact h
  · replace h := h.2 q
    refine aw_iconst K d_RM_rule_53 rfl (v := 1) (by decide) ?_
    refine aw_goto K d_RM_rule_54 (n := 58) (by decide) ?_
    exact h
set_option maxRecDepth 20000 in
theorem x_RM_rule_58 {X : am_X} {dd bc bs : Nat} (K : am_ok X b_RM_rule R_RM 4 dd) {post : Option am_V → List am_C → Prop} (hr : am_rt X (some .int) post) {sp_RM_throwing : am_S} {dd_RM_throwing : Nat} (c_RM_throwing : Con y_RM_throwing b_RM_throwing 3 (some .boolean) dd_RM_throwing 0 0 false sp_RM_throwing) (hdd_RM_throwing : dd_RM_throwing + 1 ≤ dd) {l1 l2 l3 s0 s1 x_thrown x_nodes x_room x_states x_kinds x_rules x_numberings x_wholes x_gone x_steps x_old x_stuck x_answer x_badWhole x_same x_at : Int32} {x_from x_event x_to x_sentMany : Nat → Int32} {c5 c6 c7 c8 c9 c10 c11 c12 c13 c14 c15 c16 c17 c18 : am_C}
    (h : sp_RM_throwing [aR 0, aI s1, aI s0] [oC 5 [aI x_thrown, aI x_nodes, aI x_room, aI x_states, aI x_kinds, aI x_rules, aR 1, aR 2, aR 3, aR 4, aR 5, aR 6, aR 7, aR 8, aI x_numberings, aI x_wholes, aI x_gone, aI x_steps, aI x_old, aI x_stuck, aI x_answer, aI x_badWhole, aR 9, aR 10, aR 11, aR 12, aR 13, aR 14, aR 15, aR 16, aR 17, aR 18, aI x_same, aI x_at], iC 40 x_from, iC 40 x_event, iC 40 x_to, iC 40 x_sentMany, c5, c6, c7, c8, c9, c10, c11, c12, c13, c14, c15, c16, c17, c18] (fun rv w' => AW X 61 [some (aR 0), some (aI l1), some (aI l2), some (aI l3)] (rv.toList ++ []) w' bc bs)) :
    AW X 58 [some (aR 0), some (aI l1), some (aI l2), some (aI l3)] [aI s0, aI s1, aR 0] [oC 5 [aI x_thrown, aI x_nodes, aI x_room, aI x_states, aI x_kinds, aI x_rules, aR 1, aR 2, aR 3, aR 4, aR 5, aR 6, aR 7, aR 8, aI x_numberings, aI x_wholes, aI x_gone, aI x_steps, aI x_old, aI x_stuck, aI x_answer, aI x_badWhole, aR 9, aR 10, aR 11, aR 12, aR 13, aR 14, aR 15, aR 16, aR 17, aR 18, aI x_same, aI x_at], iC 40 x_from, iC 40 x_event, iC 40 x_to, iC 40 x_sentMany, c5, c6, c7, c8, c9, c10, c11, c12, c13, c14, c15, c16, c17, c18] bc bs := by
  exact aw_callV K c_RM_throwing cb_RM_103 ci_RM_throwing cs_RM_throwing hdd_RM_throwing (k := 0) rfl rfl d_RM_rule_58 rfl (av := [aI s1, aI s0]) rfl (Nat.le_of_ble_eq_true rfl) h (fun rv w' hF => hF)
set_option maxRecDepth 20000 in
theorem x_RM_rule_61 {X : am_X} {dd bc bs : Nat} (K : am_ok X b_RM_rule R_RM 4 dd) {post : Option am_V → List am_C → Prop} (hr : am_rt X (some .int) post) {sp_RM_forget : am_S} {dd_RM_forget : Nat} (c_RM_forget : Con y_RM_forget b_RM_forget 1 none dd_RM_forget 0 0 false sp_RM_forget) (hdd_RM_forget : dd_RM_forget + 1 ≤ dd) {l1 l2 l3 s0 x_thrown x_nodes x_room x_states x_kinds x_rules x_numberings x_wholes x_gone x_steps x_old x_stuck x_answer x_badWhole x_same x_at : Int32} {x_from x_event x_to x_sentMany : Nat → Int32} {c5 c6 c7 c8 c9 c10 c11 c12 c13 c14 c15 c16 c17 c18 : am_C}
    (h : (s0 = 0 → sp_RM_forget [aR 0] [oC 5 [aI x_thrown, aI x_nodes, aI x_room, aI x_states, aI x_kinds, aI x_rules, aR 1, aR 2, aR 3, aR 4, aR 5, aR 6, aR 7, aR 8, aI x_numberings, aI x_wholes, aI x_gone, aI x_steps, aI x_old, aI x_stuck, aI x_answer, aI x_badWhole, aR 9, aR 10, aR 11, aR 12, aR 13, aR 14, aR 15, aR 16, aR 17, aR 18, aI x_same, aI x_at], iC 40 x_from, iC 40 x_event, iC 40 x_to, iC 40 x_sentMany, c5, c6, c7, c8, c9, c10, c11, c12, c13, c14, c15, c16, c17, c18] (fun rv w' => AW X 70 [some (aR 0), some (aI l1), some (aI l2), some (aI l3)] (rv.toList ++ []) w' bc bs)) ∧ (¬ s0 = 0 → post (some (aI 0)) [oC 5 [aI x_thrown, aI x_nodes, aI x_room, aI x_states, aI x_kinds, aI x_rules, aR 1, aR 2, aR 3, aR 4, aR 5, aR 6, aR 7, aR 8, aI x_numberings, aI x_wholes, aI x_gone, aI x_steps, aI x_old, aI x_stuck, aI x_answer, aI x_badWhole, aR 9, aR 10, aR 11, aR 12, aR 13, aR 14, aR 15, aR 16, aR 17, aR 18, aI x_same, aI x_at], iC 40 x_from, iC 40 x_event, iC 40 x_to, iC 40 x_sentMany, c5, c6, c7, c8, c9, c10, c11, c12, c13, c14, c15, c16, c17, c18])) :
    AW X 61 [some (aR 0), some (aI l1), some (aI l2), some (aI l3)] [aI s0] [oC 5 [aI x_thrown, aI x_nodes, aI x_room, aI x_states, aI x_kinds, aI x_rules, aR 1, aR 2, aR 3, aR 4, aR 5, aR 6, aR 7, aR 8, aI x_numberings, aI x_wholes, aI x_gone, aI x_steps, aI x_old, aI x_stuck, aI x_answer, aI x_badWhole, aR 9, aR 10, aR 11, aR 12, aR 13, aR 14, aR 15, aR 16, aR 17, aR 18, aI x_same, aI x_at], iC 40 x_from, iC 40 x_event, iC 40 x_to, iC 40 x_sentMany, c5, c6, c7, c8, c9, c10, c11, c12, c13, c14, c15, c16, c17, c18] bc bs := by
  refine aw_if_eq K d_RM_rule_61 (t := 66) (by decide) rfl (fun q => ?_) (fun q => ?_)
  · replace h := h.1 q
    refine aw_aload_n K d_RM_rule_66 rfl rfl ?_
    exact aw_callV K c_RM_forget cb_RM_107 ci_RM_forget cs_RM_forget hdd_RM_forget (k := 0) rfl rfl d_RM_rule_67 rfl (av := []) rfl (Nat.le_of_ble_eq_true rfl) h (fun rv w' hF => hF)
  · replace h := h.2 q
    refine aw_iconst K d_RM_rule_64 rfl (v := 0) (by decide) ?_
    exact aw_iret K hr d_RM_rule_65 h
set_option maxRecDepth 20000 in
theorem x_RM_rule_70 {X : am_X} {dd bc bs : Nat} (K : am_ok X b_RM_rule R_RM 4 dd) {post : Option am_V → List am_C → Prop} (hr : am_rt X (some .int) post) {l1 l2 l3 x_thrown x_nodes x_room x_states x_kinds x_rules x_numberings x_wholes x_gone x_steps x_old x_stuck x_answer x_badWhole x_same x_at : Int32} {x_from x_event x_to x_sentMany : Nat → Int32} {c5 c6 c7 c8 c9 c10 c11 c12 c13 c14 c15 c16 c17 c18 : am_C}
    (h : vp_in x_rules 40 ∧ vp_in x_rules 40 ∧ vp_in x_rules 40 ∧ vp_in x_rules 40 ∧ post (some (aI ((x_rules + (1 : Int32)) - (1 : Int32)))) [oC 5 [aI x_thrown, aI x_nodes, aI x_room, aI x_states, aI x_kinds, aI (x_rules + (1 : Int32)), aR 1, aR 2, aR 3, aR 4, aR 5, aR 6, aR 7, aR 8, aI x_numberings, aI x_wholes, aI x_gone, aI x_steps, aI x_old, aI x_stuck, aI x_answer, aI x_badWhole, aR 9, aR 10, aR 11, aR 12, aR 13, aR 14, aR 15, aR 16, aR 17, aR 18, aI x_same, aI x_at], iC 40 (upd x_from x_rules.toNatClampNeg l1), iC 40 (upd x_event x_rules.toNatClampNeg l2), iC 40 (upd x_to x_rules.toNatClampNeg l3), iC 40 (upd x_sentMany x_rules.toNatClampNeg 0), c5, c6, c7, c8, c9, c10, c11, c12, c13, c14, c15, c16, c17, c18]) :
    AW X 70 [some (aR 0), some (aI l1), some (aI l2), some (aI l3)] [] [oC 5 [aI x_thrown, aI x_nodes, aI x_room, aI x_states, aI x_kinds, aI x_rules, aR 1, aR 2, aR 3, aR 4, aR 5, aR 6, aR 7, aR 8, aI x_numberings, aI x_wholes, aI x_gone, aI x_steps, aI x_old, aI x_stuck, aI x_answer, aI x_badWhole, aR 9, aR 10, aR 11, aR 12, aR 13, aR 14, aR 15, aR 16, aR 17, aR 18, aI x_same, aI x_at], iC 40 x_from, iC 40 x_event, iC 40 x_to, iC 40 x_sentMany, c5, c6, c7, c8, c9, c10, c11, c12, c13, c14, c15, c16, c17, c18] bc bs := by
  refine aw_aload_n K d_RM_rule_70 rfl rfl ?_
  refine aw_getf K fd_RM_13 d_RM_rule_71 rfl rfl rfl ?_
  refine aw_aload_n K d_RM_rule_74 rfl rfl ?_
  refine aw_getf K fd_RM_117 d_RM_rule_75 rfl rfl rfl ?_
  refine aw_iload_n K d_RM_rule_78 rfl rfl ?_
  refine aw_iast K d_RM_rule_79 rfl rfl h.1 (w' := [oC 5 [aI x_thrown, aI x_nodes, aI x_room, aI x_states, aI x_kinds, aI x_rules, aR 1, aR 2, aR 3, aR 4, aR 5, aR 6, aR 7, aR 8, aI x_numberings, aI x_wholes, aI x_gone, aI x_steps, aI x_old, aI x_stuck, aI x_answer, aI x_badWhole, aR 9, aR 10, aR 11, aR 12, aR 13, aR 14, aR 15, aR 16, aR 17, aR 18, aI x_same, aI x_at], iC 40 (upd x_from x_rules.toNatClampNeg l1), iC 40 x_event, iC 40 x_to, iC 40 x_sentMany, c5, c6, c7, c8, c9, c10, c11, c12, c13, c14, c15, c16, c17, c18]) rfl ?_
  replace h := h.2
  refine aw_aload_n K d_RM_rule_80 rfl rfl ?_
  refine aw_getf K fd_RM_17 d_RM_rule_81 rfl rfl rfl ?_
  refine aw_aload_n K d_RM_rule_84 rfl rfl ?_
  refine aw_getf K fd_RM_117 d_RM_rule_85 rfl rfl rfl ?_
  refine aw_iload_n K d_RM_rule_88 rfl rfl ?_
  refine aw_iast K d_RM_rule_89 rfl rfl h.1 (w' := [oC 5 [aI x_thrown, aI x_nodes, aI x_room, aI x_states, aI x_kinds, aI x_rules, aR 1, aR 2, aR 3, aR 4, aR 5, aR 6, aR 7, aR 8, aI x_numberings, aI x_wholes, aI x_gone, aI x_steps, aI x_old, aI x_stuck, aI x_answer, aI x_badWhole, aR 9, aR 10, aR 11, aR 12, aR 13, aR 14, aR 15, aR 16, aR 17, aR 18, aI x_same, aI x_at], iC 40 (upd x_from x_rules.toNatClampNeg l1), iC 40 (upd x_event x_rules.toNatClampNeg l2), iC 40 x_to, iC 40 x_sentMany, c5, c6, c7, c8, c9, c10, c11, c12, c13, c14, c15, c16, c17, c18]) rfl ?_
  replace h := h.2
  refine aw_aload_n K d_RM_rule_90 rfl rfl ?_
  refine aw_getf K fd_RM_20 d_RM_rule_91 rfl rfl rfl ?_
  refine aw_aload_n K d_RM_rule_94 rfl rfl ?_
  refine aw_getf K fd_RM_117 d_RM_rule_95 rfl rfl rfl ?_
  refine aw_iload_n K d_RM_rule_98 rfl rfl ?_
  refine aw_iast K d_RM_rule_99 rfl rfl h.1 (w' := [oC 5 [aI x_thrown, aI x_nodes, aI x_room, aI x_states, aI x_kinds, aI x_rules, aR 1, aR 2, aR 3, aR 4, aR 5, aR 6, aR 7, aR 8, aI x_numberings, aI x_wholes, aI x_gone, aI x_steps, aI x_old, aI x_stuck, aI x_answer, aI x_badWhole, aR 9, aR 10, aR 11, aR 12, aR 13, aR 14, aR 15, aR 16, aR 17, aR 18, aI x_same, aI x_at], iC 40 (upd x_from x_rules.toNatClampNeg l1), iC 40 (upd x_event x_rules.toNatClampNeg l2), iC 40 (upd x_to x_rules.toNatClampNeg l3), iC 40 x_sentMany, c5, c6, c7, c8, c9, c10, c11, c12, c13, c14, c15, c16, c17, c18]) rfl ?_
  replace h := h.2
  refine aw_aload_n K d_RM_rule_100 rfl rfl ?_
  refine aw_getf K fd_RM_23 d_RM_rule_101 rfl rfl rfl ?_
  refine aw_aload_n K d_RM_rule_104 rfl rfl ?_
  refine aw_getf K fd_RM_117 d_RM_rule_105 rfl rfl rfl ?_
  refine aw_iconst K d_RM_rule_108 rfl (v := 0) (by decide) ?_
  refine aw_iast K d_RM_rule_109 rfl rfl h.1 (w' := [oC 5 [aI x_thrown, aI x_nodes, aI x_room, aI x_states, aI x_kinds, aI x_rules, aR 1, aR 2, aR 3, aR 4, aR 5, aR 6, aR 7, aR 8, aI x_numberings, aI x_wholes, aI x_gone, aI x_steps, aI x_old, aI x_stuck, aI x_answer, aI x_badWhole, aR 9, aR 10, aR 11, aR 12, aR 13, aR 14, aR 15, aR 16, aR 17, aR 18, aI x_same, aI x_at], iC 40 (upd x_from x_rules.toNatClampNeg l1), iC 40 (upd x_event x_rules.toNatClampNeg l2), iC 40 (upd x_to x_rules.toNatClampNeg l3), iC 40 (upd x_sentMany x_rules.toNatClampNeg 0), c5, c6, c7, c8, c9, c10, c11, c12, c13, c14, c15, c16, c17, c18]) rfl ?_
  replace h := h.2
  refine aw_aload_n K d_RM_rule_110 rfl rfl ?_
  refine aw_dup K d_RM_rule_111 rfl (fun _ e => nomatch e) ?_
  refine aw_getf K fd_RM_117 d_RM_rule_112 rfl rfl rfl ?_
  refine aw_iconst K d_RM_rule_115 rfl (v := 1) (by decide) ?_
  refine aw_iadd K d_RM_rule_116 rfl ?_
  refine aw_putf K fp_RM_117 d_RM_rule_117 rfl rfl (Nat.le_of_ble_eq_true rfl) (am_fit_i _) (w' := [oC 5 [aI x_thrown, aI x_nodes, aI x_room, aI x_states, aI x_kinds, aI (x_rules + (1 : Int32)), aR 1, aR 2, aR 3, aR 4, aR 5, aR 6, aR 7, aR 8, aI x_numberings, aI x_wholes, aI x_gone, aI x_steps, aI x_old, aI x_stuck, aI x_answer, aI x_badWhole, aR 9, aR 10, aR 11, aR 12, aR 13, aR 14, aR 15, aR 16, aR 17, aR 18, aI x_same, aI x_at], iC 40 (upd x_from x_rules.toNatClampNeg l1), iC 40 (upd x_event x_rules.toNatClampNeg l2), iC 40 (upd x_to x_rules.toNatClampNeg l3), iC 40 (upd x_sentMany x_rules.toNatClampNeg 0), c5, c6, c7, c8, c9, c10, c11, c12, c13, c14, c15, c16, c17, c18]) rfl ?_
  refine aw_aload_n K d_RM_rule_120 rfl rfl ?_
  refine aw_getf K fd_RM_117 d_RM_rule_121 rfl rfl rfl ?_
  refine aw_iconst K d_RM_rule_124 rfl (v := 1) (by decide) ?_
  refine aw_isub K d_RM_rule_125 rfl ?_
  exact aw_iret K hr d_RM_rule_126 h
set_option maxRecDepth 20000 in
theorem x_RM_sends_0 {X : am_X} {dd bc bs : Nat} (K : am_ok X b_RM_sends R_RM 5 dd) {post : Option am_V → List am_C → Prop} (hr : am_rt X (some .int) post) {sp_RM_isOf : am_S} {dd_RM_isOf : Nat} (c_RM_isOf : Con y_RM_isOf b_RM_isOf 2 (some .boolean) dd_RM_isOf 0 0 false sp_RM_isOf) (hdd_RM_isOf : dd_RM_isOf + 1 ≤ dd) {l1 l2 l3 x_thrown x_nodes x_room x_states x_kinds x_rules x_numberings x_wholes x_gone x_steps x_old x_stuck x_answer x_badWhole x_same x_at : Int32} {x_event x_sentMany x_sentKind x_sentWhom : Nat → Int32} {c1 c3 c7 c8 c9 c10 c11 c12 c13 c14 c15 c16 c17 c18 : am_C}
    (h : sp_RM_isOf [aI l1, aI x_rules] [oC 5 [aI x_thrown, aI x_nodes, aI x_room, aI x_states, aI x_kinds, aI x_rules, aR 1, aR 2, aR 3, aR 4, aR 5, aR 6, aR 7, aR 8, aI x_numberings, aI x_wholes, aI x_gone, aI x_steps, aI x_old, aI x_stuck, aI x_answer, aI x_badWhole, aR 9, aR 10, aR 11, aR 12, aR 13, aR 14, aR 15, aR 16, aR 17, aR 18, aI x_same, aI x_at], c1, iC 40 x_event, c3, iC 40 x_sentMany, iC 160 x_sentKind, iC 160 x_sentWhom, c7, c8, c9, c10, c11, c12, c13, c14, c15, c16, c17, c18] (fun rv w' => AW X 8 [some (aR 0), some (aI l1), some (aI l2), some (aI l3), none] (rv.toList ++ []) w' bc bs)) :
    AW X 0 [some (aR 0), some (aI l1), some (aI l2), some (aI l3), none] [] [oC 5 [aI x_thrown, aI x_nodes, aI x_room, aI x_states, aI x_kinds, aI x_rules, aR 1, aR 2, aR 3, aR 4, aR 5, aR 6, aR 7, aR 8, aI x_numberings, aI x_wholes, aI x_gone, aI x_steps, aI x_old, aI x_stuck, aI x_answer, aI x_badWhole, aR 9, aR 10, aR 11, aR 12, aR 13, aR 14, aR 15, aR 16, aR 17, aR 18, aI x_same, aI x_at], c1, iC 40 x_event, c3, iC 40 x_sentMany, iC 160 x_sentKind, iC 160 x_sentWhom, c7, c8, c9, c10, c11, c12, c13, c14, c15, c16, c17, c18] bc bs := by
  refine aw_iload_n K d_RM_sends_0 rfl rfl ?_
  refine aw_aload_n K d_RM_sends_1 rfl rfl ?_
  refine aw_getf K fd_RM_117 d_RM_sends_2 rfl rfl rfl ?_
  exact aw_callS K c_RM_isOf cb_RM_113 ct_RM_isOf hdd_RM_isOf d_RM_sends_5 rfl (av := [aI l1, aI x_rules]) rfl (Nat.le_of_ble_eq_true rfl) h (fun rv w' hF => hF)
set_option maxRecDepth 20000 in
theorem x_RM_sends_8 {X : am_X} {dd bc bs : Nat} (K : am_ok X b_RM_sends R_RM 5 dd) {post : Option am_V → List am_C → Prop} (hr : am_rt X (some .int) post) {sp_RM_isOf : am_S} {dd_RM_isOf : Nat} (c_RM_isOf : Con y_RM_isOf b_RM_isOf 2 (some .boolean) dd_RM_isOf 0 0 false sp_RM_isOf) (hdd_RM_isOf : dd_RM_isOf + 1 ≤ dd) {l1 l2 l3 s0 x_thrown x_nodes x_room x_states x_kinds x_rules x_numberings x_wholes x_gone x_steps x_old x_stuck x_answer x_badWhole x_same x_at : Int32} {x_event x_sentMany x_sentKind x_sentWhom : Nat → Int32} {c1 c3 c7 c8 c9 c10 c11 c12 c13 c14 c15 c16 c17 c18 : am_C}
    (h : (s0 = 0 → AW X 30 [some (aR 0), some (aI l1), some (aI l2), some (aI l3), none] [] [oC 5 [aI x_thrown, aI x_nodes, aI x_room, aI x_states, aI x_kinds, aI x_rules, aR 1, aR 2, aR 3, aR 4, aR 5, aR 6, aR 7, aR 8, aI x_numberings, aI x_wholes, aI x_gone, aI x_steps, aI x_old, aI x_stuck, aI x_answer, aI x_badWhole, aR 9, aR 10, aR 11, aR 12, aR 13, aR 14, aR 15, aR 16, aR 17, aR 18, aI x_same, aI x_at], c1, iC 40 x_event, c3, iC 40 x_sentMany, iC 160 x_sentKind, iC 160 x_sentWhom, c7, c8, c9, c10, c11, c12, c13, c14, c15, c16, c17, c18] bc bs) ∧ (¬ s0 = 0 → sp_RM_isOf [aI l2, aI x_kinds] [oC 5 [aI x_thrown, aI x_nodes, aI x_room, aI x_states, aI x_kinds, aI x_rules, aR 1, aR 2, aR 3, aR 4, aR 5, aR 6, aR 7, aR 8, aI x_numberings, aI x_wholes, aI x_gone, aI x_steps, aI x_old, aI x_stuck, aI x_answer, aI x_badWhole, aR 9, aR 10, aR 11, aR 12, aR 13, aR 14, aR 15, aR 16, aR 17, aR 18, aI x_same, aI x_at], c1, iC 40 x_event, c3, iC 40 x_sentMany, iC 160 x_sentKind, iC 160 x_sentWhom, c7, c8, c9, c10, c11, c12, c13, c14, c15, c16, c17, c18] (fun rv w' => AW X 19 [some (aR 0), some (aI l1), some (aI l2), some (aI l3), none] (rv.toList ++ []) w' bc bs))) :
    AW X 8 [some (aR 0), some (aI l1), some (aI l2), some (aI l3), none] [aI s0] [oC 5 [aI x_thrown, aI x_nodes, aI x_room, aI x_states, aI x_kinds, aI x_rules, aR 1, aR 2, aR 3, aR 4, aR 5, aR 6, aR 7, aR 8, aI x_numberings, aI x_wholes, aI x_gone, aI x_steps, aI x_old, aI x_stuck, aI x_answer, aI x_badWhole, aR 9, aR 10, aR 11, aR 12, aR 13, aR 14, aR 15, aR 16, aR 17, aR 18, aI x_same, aI x_at], c1, iC 40 x_event, c3, iC 40 x_sentMany, iC 160 x_sentKind, iC 160 x_sentWhom, c7, c8, c9, c10, c11, c12, c13, c14, c15, c16, c17, c18] bc bs := by
  refine aw_if_eq K d_RM_sends_8 (t := 30) (by decide) rfl (fun q => ?_) (fun q => ?_)
  · replace h := h.1 q
    exact h
  · replace h := h.2 q
    refine aw_iload_n K d_RM_sends_11 rfl rfl ?_
    refine aw_aload_n K d_RM_sends_12 rfl rfl ?_
    refine aw_getf K fd_RM_110 d_RM_sends_13 rfl rfl rfl ?_
    exact aw_callS K c_RM_isOf cb_RM_113 ct_RM_isOf hdd_RM_isOf d_RM_sends_16 rfl (av := [aI l2, aI x_kinds]) rfl (Nat.le_of_ble_eq_true rfl) h (fun rv w' hF => hF)
set_option maxRecDepth 20000 in
theorem x_RM_sends_19 {X : am_X} {dd bc bs : Nat} (K : am_ok X b_RM_sends R_RM 5 dd) {post : Option am_V → List am_C → Prop} (hr : am_rt X (some .int) post) {sp_RM_isOf : am_S} {dd_RM_isOf : Nat} (c_RM_isOf : Con y_RM_isOf b_RM_isOf 2 (some .boolean) dd_RM_isOf 0 0 false sp_RM_isOf) (hdd_RM_isOf : dd_RM_isOf + 1 ≤ dd) {l1 l2 l3 s0 x_thrown x_nodes x_room x_states x_kinds x_rules x_numberings x_wholes x_gone x_steps x_old x_stuck x_answer x_badWhole x_same x_at : Int32} {x_event x_sentMany x_sentKind x_sentWhom : Nat → Int32} {c1 c3 c7 c8 c9 c10 c11 c12 c13 c14 c15 c16 c17 c18 : am_C}
    (h : (s0 = 0 → AW X 30 [some (aR 0), some (aI l1), some (aI l2), some (aI l3), none] [] [oC 5 [aI x_thrown, aI x_nodes, aI x_room, aI x_states, aI x_kinds, aI x_rules, aR 1, aR 2, aR 3, aR 4, aR 5, aR 6, aR 7, aR 8, aI x_numberings, aI x_wholes, aI x_gone, aI x_steps, aI x_old, aI x_stuck, aI x_answer, aI x_badWhole, aR 9, aR 10, aR 11, aR 12, aR 13, aR 14, aR 15, aR 16, aR 17, aR 18, aI x_same, aI x_at], c1, iC 40 x_event, c3, iC 40 x_sentMany, iC 160 x_sentKind, iC 160 x_sentWhom, c7, c8, c9, c10, c11, c12, c13, c14, c15, c16, c17, c18] bc bs) ∧ (¬ s0 = 0 → sp_RM_isOf [aI l3, aI 2] [oC 5 [aI x_thrown, aI x_nodes, aI x_room, aI x_states, aI x_kinds, aI x_rules, aR 1, aR 2, aR 3, aR 4, aR 5, aR 6, aR 7, aR 8, aI x_numberings, aI x_wholes, aI x_gone, aI x_steps, aI x_old, aI x_stuck, aI x_answer, aI x_badWhole, aR 9, aR 10, aR 11, aR 12, aR 13, aR 14, aR 15, aR 16, aR 17, aR 18, aI x_same, aI x_at], c1, iC 40 x_event, c3, iC 40 x_sentMany, iC 160 x_sentKind, iC 160 x_sentWhom, c7, c8, c9, c10, c11, c12, c13, c14, c15, c16, c17, c18] (fun rv w' => AW X 27 [some (aR 0), some (aI l1), some (aI l2), some (aI l3), none] (rv.toList ++ []) w' bc bs))) :
    AW X 19 [some (aR 0), some (aI l1), some (aI l2), some (aI l3), none] [aI s0] [oC 5 [aI x_thrown, aI x_nodes, aI x_room, aI x_states, aI x_kinds, aI x_rules, aR 1, aR 2, aR 3, aR 4, aR 5, aR 6, aR 7, aR 8, aI x_numberings, aI x_wholes, aI x_gone, aI x_steps, aI x_old, aI x_stuck, aI x_answer, aI x_badWhole, aR 9, aR 10, aR 11, aR 12, aR 13, aR 14, aR 15, aR 16, aR 17, aR 18, aI x_same, aI x_at], c1, iC 40 x_event, c3, iC 40 x_sentMany, iC 160 x_sentKind, iC 160 x_sentWhom, c7, c8, c9, c10, c11, c12, c13, c14, c15, c16, c17, c18] bc bs := by
  refine aw_if_eq K d_RM_sends_19 (t := 30) (by decide) rfl (fun q => ?_) (fun q => ?_)
  · replace h := h.1 q
    exact h
  · replace h := h.2 q
    refine aw_iload_n K d_RM_sends_22 rfl rfl ?_
    refine aw_iconst K d_RM_sends_23 rfl (v := 2) (by decide) ?_
    exact aw_callS K c_RM_isOf cb_RM_113 ct_RM_isOf hdd_RM_isOf d_RM_sends_24 rfl (av := [aI l3, aI 2]) rfl (Nat.le_of_ble_eq_true rfl) h (fun rv w' hF => hF)
set_option maxRecDepth 20000 in
theorem x_RM_sends_27 {X : am_X} {dd bc bs : Nat} (K : am_ok X b_RM_sends R_RM 5 dd) {post : Option am_V → List am_C → Prop} (hr : am_rt X (some .int) post) {l1 l2 l3 s0 x_thrown x_nodes x_room x_states x_kinds x_rules x_numberings x_wholes x_gone x_steps x_old x_stuck x_answer x_badWhole x_same x_at : Int32} {x_event x_sentMany x_sentKind x_sentWhom : Nat → Int32} {c1 c3 c7 c8 c9 c10 c11 c12 c13 c14 c15 c16 c17 c18 : am_C}
    (h : (¬ s0 = 0 → AW X 35 [some (aR 0), some (aI l1), some (aI l2), some (aI l3), none] [aI 0] [oC 5 [aI x_thrown, aI x_nodes, aI x_room, aI x_states, aI x_kinds, aI x_rules, aR 1, aR 2, aR 3, aR 4, aR 5, aR 6, aR 7, aR 8, aI x_numberings, aI x_wholes, aI x_gone, aI x_steps, aI x_old, aI x_stuck, aI x_answer, aI x_badWhole, aR 9, aR 10, aR 11, aR 12, aR 13, aR 14, aR 15, aR 16, aR 17, aR 18, aI x_same, aI x_at], c1, iC 40 x_event, c3, iC 40 x_sentMany, iC 160 x_sentKind, iC 160 x_sentWhom, c7, c8, c9, c10, c11, c12, c13, c14, c15, c16, c17, c18] bc bs) ∧ (s0 = 0 → AW X 30 [some (aR 0), some (aI l1), some (aI l2), some (aI l3), none] [] [oC 5 [aI x_thrown, aI x_nodes, aI x_room, aI x_states, aI x_kinds, aI x_rules, aR 1, aR 2, aR 3, aR 4, aR 5, aR 6, aR 7, aR 8, aI x_numberings, aI x_wholes, aI x_gone, aI x_steps, aI x_old, aI x_stuck, aI x_answer, aI x_badWhole, aR 9, aR 10, aR 11, aR 12, aR 13, aR 14, aR 15, aR 16, aR 17, aR 18, aI x_same, aI x_at], c1, iC 40 x_event, c3, iC 40 x_sentMany, iC 160 x_sentKind, iC 160 x_sentWhom, c7, c8, c9, c10, c11, c12, c13, c14, c15, c16, c17, c18] bc bs)) :
    AW X 27 [some (aR 0), some (aI l1), some (aI l2), some (aI l3), none] [aI s0] [oC 5 [aI x_thrown, aI x_nodes, aI x_room, aI x_states, aI x_kinds, aI x_rules, aR 1, aR 2, aR 3, aR 4, aR 5, aR 6, aR 7, aR 8, aI x_numberings, aI x_wholes, aI x_gone, aI x_steps, aI x_old, aI x_stuck, aI x_answer, aI x_badWhole, aR 9, aR 10, aR 11, aR 12, aR 13, aR 14, aR 15, aR 16, aR 17, aR 18, aI x_same, aI x_at], c1, iC 40 x_event, c3, iC 40 x_sentMany, iC 160 x_sentKind, iC 160 x_sentWhom, c7, c8, c9, c10, c11, c12, c13, c14, c15, c16, c17, c18] bc bs := by
  refine aw_if_ne K d_RM_sends_27 (t := 34) (by decide) rfl (fun q => ?_) (fun q => ?_)
  · replace h := h.1 q
    refine aw_iconst K d_RM_sends_34 rfl (v := 0) (by decide) ?_
    exact h
  · replace h := h.2 q
    exact h
set_option maxRecDepth 20000 in
theorem x_RM_sends_30 {X : am_X} {dd bc bs : Nat} (K : am_ok X b_RM_sends R_RM 5 dd) {post : Option am_V → List am_C → Prop} (hr : am_rt X (some .int) post) {l1 l2 l3 x_thrown x_nodes x_room x_states x_kinds x_rules x_numberings x_wholes x_gone x_steps x_old x_stuck x_answer x_badWhole x_same x_at : Int32} {x_event x_sentMany x_sentKind x_sentWhom : Nat → Int32} {c1 c3 c7 c8 c9 c10 c11 c12 c13 c14 c15 c16 c17 c18 : am_C}
    (h : AW X 35 [some (aR 0), some (aI l1), some (aI l2), some (aI l3), none] [aI 1] [oC 5 [aI x_thrown, aI x_nodes, aI x_room, aI x_states, aI x_kinds, aI x_rules, aR 1, aR 2, aR 3, aR 4, aR 5, aR 6, aR 7, aR 8, aI x_numberings, aI x_wholes, aI x_gone, aI x_steps, aI x_old, aI x_stuck, aI x_answer, aI x_badWhole, aR 9, aR 10, aR 11, aR 12, aR 13, aR 14, aR 15, aR 16, aR 17, aR 18, aI x_same, aI x_at], c1, iC 40 x_event, c3, iC 40 x_sentMany, iC 160 x_sentKind, iC 160 x_sentWhom, c7, c8, c9, c10, c11, c12, c13, c14, c15, c16, c17, c18] bc bs) :
    AW X 30 [some (aR 0), some (aI l1), some (aI l2), some (aI l3), none] [] [oC 5 [aI x_thrown, aI x_nodes, aI x_room, aI x_states, aI x_kinds, aI x_rules, aR 1, aR 2, aR 3, aR 4, aR 5, aR 6, aR 7, aR 8, aI x_numberings, aI x_wholes, aI x_gone, aI x_steps, aI x_old, aI x_stuck, aI x_answer, aI x_badWhole, aR 9, aR 10, aR 11, aR 12, aR 13, aR 14, aR 15, aR 16, aR 17, aR 18, aI x_same, aI x_at], c1, iC 40 x_event, c3, iC 40 x_sentMany, iC 160 x_sentKind, iC 160 x_sentWhom, c7, c8, c9, c10, c11, c12, c13, c14, c15, c16, c17, c18] bc bs := by
  refine aw_iconst K d_RM_sends_30 rfl (v := 1) (by decide) ?_
  refine aw_goto K d_RM_sends_31 (n := 35) (by decide) ?_
  exact h
set_option maxRecDepth 20000 in
theorem x_RM_sends_35 {X : am_X} {dd bc bs : Nat} (K : am_ok X b_RM_sends R_RM 5 dd) {post : Option am_V → List am_C → Prop} (hr : am_rt X (some .int) post) {l1 l2 l3 s0 x_thrown x_nodes x_room x_states x_kinds x_rules x_numberings x_wholes x_gone x_steps x_old x_stuck x_answer x_badWhole x_same x_at : Int32} {x_event x_sentMany x_sentKind x_sentWhom : Nat → Int32} {c1 c3 c7 c8 c9 c10 c11 c12 c13 c14 c15 c16 c17 c18 : am_C}
    (h : (¬ s0 = 0 → AW X 57 [some (aR 0), some (aI l1), some (aI l2), some (aI l3), some (aI s0)] [aR 0] [oC 5 [aI x_thrown, aI x_nodes, aI x_room, aI x_states, aI x_kinds, aI x_rules, aR 1, aR 2, aR 3, aR 4, aR 5, aR 6, aR 7, aR 8, aI x_numberings, aI x_wholes, aI x_gone, aI x_steps, aI x_old, aI x_stuck, aI x_answer, aI x_badWhole, aR 9, aR 10, aR 11, aR 12, aR 13, aR 14, aR 15, aR 16, aR 17, aR 18, aI x_same, aI x_at], c1, iC 40 x_event, c3, iC 40 x_sentMany, iC 160 x_sentKind, iC 160 x_sentWhom, c7, c8, c9, c10, c11, c12, c13, c14, c15, c16, c17, c18] bc bs) ∧ (s0 = 0 → (¬ l3 = 0 → AW X 61 [some (aR 0), some (aI l1), some (aI l2), some (aI l3), some (aI s0)] [aR 0] [oC 5 [aI x_thrown, aI x_nodes, aI x_room, aI x_states, aI x_kinds, aI x_rules, aR 1, aR 2, aR 3, aR 4, aR 5, aR 6, aR 7, aR 8, aI x_numberings, aI x_wholes, aI x_gone, aI x_steps, aI x_old, aI x_stuck, aI x_answer, aI x_badWhole, aR 9, aR 10, aR 11, aR 12, aR 13, aR 14, aR 15, aR 16, aR 17, aR 18, aI x_same, aI x_at], c1, iC 40 x_event, c3, iC 40 x_sentMany, iC 160 x_sentKind, iC 160 x_sentWhom, c7, c8, c9, c10, c11, c12, c13, c14, c15, c16, c17, c18] bc bs) ∧ (l3 = 0 → vp_in l1 40 ∧ (¬ (x_event l1.toNatClampNeg) = ((-1)) → AW X 61 [some (aR 0), some (aI l1), some (aI l2), some (aI l3), some (aI s0)] [aR 0] [oC 5 [aI x_thrown, aI x_nodes, aI x_room, aI x_states, aI x_kinds, aI x_rules, aR 1, aR 2, aR 3, aR 4, aR 5, aR 6, aR 7, aR 8, aI x_numberings, aI x_wholes, aI x_gone, aI x_steps, aI x_old, aI x_stuck, aI x_answer, aI x_badWhole, aR 9, aR 10, aR 11, aR 12, aR 13, aR 14, aR 15, aR 16, aR 17, aR 18, aI x_same, aI x_at], c1, iC 40 x_event, c3, iC 40 x_sentMany, iC 160 x_sentKind, iC 160 x_sentWhom, c7, c8, c9, c10, c11, c12, c13, c14, c15, c16, c17, c18] bc bs) ∧ ((x_event l1.toNatClampNeg) = ((-1)) → AW X 57 [some (aR 0), some (aI l1), some (aI l2), some (aI l3), some (aI s0)] [aR 0] [oC 5 [aI x_thrown, aI x_nodes, aI x_room, aI x_states, aI x_kinds, aI x_rules, aR 1, aR 2, aR 3, aR 4, aR 5, aR 6, aR 7, aR 8, aI x_numberings, aI x_wholes, aI x_gone, aI x_steps, aI x_old, aI x_stuck, aI x_answer, aI x_badWhole, aR 9, aR 10, aR 11, aR 12, aR 13, aR 14, aR 15, aR 16, aR 17, aR 18, aI x_same, aI x_at], c1, iC 40 x_event, c3, iC 40 x_sentMany, iC 160 x_sentKind, iC 160 x_sentWhom, c7, c8, c9, c10, c11, c12, c13, c14, c15, c16, c17, c18] bc bs)))) :
    AW X 35 [some (aR 0), some (aI l1), some (aI l2), some (aI l3), none] [aI s0] [oC 5 [aI x_thrown, aI x_nodes, aI x_room, aI x_states, aI x_kinds, aI x_rules, aR 1, aR 2, aR 3, aR 4, aR 5, aR 6, aR 7, aR 8, aI x_numberings, aI x_wholes, aI x_gone, aI x_steps, aI x_old, aI x_stuck, aI x_answer, aI x_badWhole, aR 9, aR 10, aR 11, aR 12, aR 13, aR 14, aR 15, aR 16, aR 17, aR 18, aI x_same, aI x_at], c1, iC 40 x_event, c3, iC 40 x_sentMany, iC 160 x_sentKind, iC 160 x_sentWhom, c7, c8, c9, c10, c11, c12, c13, c14, c15, c16, c17, c18] bc bs := by
  refine aw_istore K d_RM_sends_35 rfl (by decide) (lv' := [some (aR 0), some (aI l1), some (aI l2), some (aI l3), some (aI s0)]) rfl ?_
  refine aw_aload_n K d_RM_sends_37 rfl rfl ?_
  refine aw_iload K d_RM_sends_38 rfl rfl ?_
  refine aw_if_ne K d_RM_sends_40 (t := 57) (by decide) rfl (fun q => ?_) (fun q => ?_)
  · replace h := h.1 q
    exact h
  · replace h := h.2 q
    refine aw_iload_n K d_RM_sends_43 rfl rfl ?_
    refine aw_if_ne K d_RM_sends_44 (t := 61) (by decide) rfl (fun q => ?_) (fun q => ?_)
    · replace h := h.1 q
      exact h
    · replace h := h.2 q
      refine aw_aload_n K d_RM_sends_47 rfl rfl ?_
      refine aw_getf K fd_RM_17 d_RM_sends_48 rfl rfl rfl ?_
      refine aw_iload_n K d_RM_sends_51 rfl rfl ?_
      refine aw_iald K d_RM_sends_52 rfl rfl h.1 ?_
      replace h := h.2
      refine aw_iconst K d_RM_sends_53 rfl (v := (-1)) (by decide) ?_
      refine aw_icmp_ne K d_RM_sends_54 (t := 61) (by decide) rfl (fun q => ?_) (fun q => ?_)
      · replace h := h.1 q
        exact h
      · replace h := h.2 q
        exact h
set_option maxRecDepth 20000 in
theorem x_RM_sends_57 {X : am_X} {dd bc bs : Nat} (K : am_ok X b_RM_sends R_RM 5 dd) {post : Option am_V → List am_C → Prop} (hr : am_rt X (some .int) post) {l1 l2 l3 l4 x_thrown x_nodes x_room x_states x_kinds x_rules x_numberings x_wholes x_gone x_steps x_old x_stuck x_answer x_badWhole x_same x_at : Int32} {x_event x_sentMany x_sentKind x_sentWhom : Nat → Int32} {c1 c3 c7 c8 c9 c10 c11 c12 c13 c14 c15 c16 c17 c18 : am_C}
    (h : AW X 62 [some (aR 0), some (aI l1), some (aI l2), some (aI l3), some (aI l4)] [aI 1, aR 0] [oC 5 [aI x_thrown, aI x_nodes, aI x_room, aI x_states, aI x_kinds, aI x_rules, aR 1, aR 2, aR 3, aR 4, aR 5, aR 6, aR 7, aR 8, aI x_numberings, aI x_wholes, aI x_gone, aI x_steps, aI x_old, aI x_stuck, aI x_answer, aI x_badWhole, aR 9, aR 10, aR 11, aR 12, aR 13, aR 14, aR 15, aR 16, aR 17, aR 18, aI x_same, aI x_at], c1, iC 40 x_event, c3, iC 40 x_sentMany, iC 160 x_sentKind, iC 160 x_sentWhom, c7, c8, c9, c10, c11, c12, c13, c14, c15, c16, c17, c18] bc bs) :
    AW X 57 [some (aR 0), some (aI l1), some (aI l2), some (aI l3), some (aI l4)] [aR 0] [oC 5 [aI x_thrown, aI x_nodes, aI x_room, aI x_states, aI x_kinds, aI x_rules, aR 1, aR 2, aR 3, aR 4, aR 5, aR 6, aR 7, aR 8, aI x_numberings, aI x_wholes, aI x_gone, aI x_steps, aI x_old, aI x_stuck, aI x_answer, aI x_badWhole, aR 9, aR 10, aR 11, aR 12, aR 13, aR 14, aR 15, aR 16, aR 17, aR 18, aI x_same, aI x_at], c1, iC 40 x_event, c3, iC 40 x_sentMany, iC 160 x_sentKind, iC 160 x_sentWhom, c7, c8, c9, c10, c11, c12, c13, c14, c15, c16, c17, c18] bc bs := by
  refine aw_iconst K d_RM_sends_57 rfl (v := 1) (by decide) ?_
  refine aw_goto K d_RM_sends_58 (n := 62) (by decide) ?_
  exact h
set_option maxRecDepth 20000 in
theorem x_RM_sends_61 {X : am_X} {dd bc bs : Nat} (K : am_ok X b_RM_sends R_RM 5 dd) {post : Option am_V → List am_C → Prop} (hr : am_rt X (some .int) post) {l1 l2 l3 l4 x_thrown x_nodes x_room x_states x_kinds x_rules x_numberings x_wholes x_gone x_steps x_old x_stuck x_answer x_badWhole x_same x_at : Int32} {x_event x_sentMany x_sentKind x_sentWhom : Nat → Int32} {c1 c3 c7 c8 c9 c10 c11 c12 c13 c14 c15 c16 c17 c18 : am_C}
    (h : AW X 62 [some (aR 0), some (aI l1), some (aI l2), some (aI l3), some (aI l4)] [aI 0, aR 0] [oC 5 [aI x_thrown, aI x_nodes, aI x_room, aI x_states, aI x_kinds, aI x_rules, aR 1, aR 2, aR 3, aR 4, aR 5, aR 6, aR 7, aR 8, aI x_numberings, aI x_wholes, aI x_gone, aI x_steps, aI x_old, aI x_stuck, aI x_answer, aI x_badWhole, aR 9, aR 10, aR 11, aR 12, aR 13, aR 14, aR 15, aR 16, aR 17, aR 18, aI x_same, aI x_at], c1, iC 40 x_event, c3, iC 40 x_sentMany, iC 160 x_sentKind, iC 160 x_sentWhom, c7, c8, c9, c10, c11, c12, c13, c14, c15, c16, c17, c18] bc bs) :
    AW X 61 [some (aR 0), some (aI l1), some (aI l2), some (aI l3), some (aI l4)] [aR 0] [oC 5 [aI x_thrown, aI x_nodes, aI x_room, aI x_states, aI x_kinds, aI x_rules, aR 1, aR 2, aR 3, aR 4, aR 5, aR 6, aR 7, aR 8, aI x_numberings, aI x_wholes, aI x_gone, aI x_steps, aI x_old, aI x_stuck, aI x_answer, aI x_badWhole, aR 9, aR 10, aR 11, aR 12, aR 13, aR 14, aR 15, aR 16, aR 17, aR 18, aI x_same, aI x_at], c1, iC 40 x_event, c3, iC 40 x_sentMany, iC 160 x_sentKind, iC 160 x_sentWhom, c7, c8, c9, c10, c11, c12, c13, c14, c15, c16, c17, c18] bc bs := by
  refine aw_iconst K d_RM_sends_61 rfl (v := 0) (by decide) ?_
  exact h
set_option maxRecDepth 20000 in
theorem x_RM_sends_62 {X : am_X} {dd bc bs : Nat} (K : am_ok X b_RM_sends R_RM 5 dd) {post : Option am_V → List am_C → Prop} (hr : am_rt X (some .int) post) {l1 l2 l3 l4 s0 x_thrown x_nodes x_room x_states x_kinds x_rules x_numberings x_wholes x_gone x_steps x_old x_stuck x_answer x_badWhole x_same x_at : Int32} {x_event x_sentMany x_sentKind x_sentWhom : Nat → Int32} {c1 c3 c7 c8 c9 c10 c11 c12 c13 c14 c15 c16 c17 c18 : am_C}
    (h : (¬ l4 = 0 → AW X 81 [some (aR 0), some (aI l1), some (aI l2), some (aI l3), none] [aI s0, aR 0] [oC 5 [aI x_thrown, aI x_nodes, aI x_room, aI x_states, aI x_kinds, aI x_rules, aR 1, aR 2, aR 3, aR 4, aR 5, aR 6, aR 7, aR 8, aI x_numberings, aI x_wholes, aI x_gone, aI x_steps, aI x_old, aI x_stuck, aI x_answer, aI x_badWhole, aR 9, aR 10, aR 11, aR 12, aR 13, aR 14, aR 15, aR 16, aR 17, aR 18, aI x_same, aI x_at], c1, iC 40 x_event, c3, iC 40 x_sentMany, iC 160 x_sentKind, iC 160 x_sentWhom, c7, c8, c9, c10, c11, c12, c13, c14, c15, c16, c17, c18] bc bs) ∧ (l4 = 0 → vp_in l1 40 ∧ (¬ (x_sentMany l1.toNatClampNeg) = 4 → AW X 81 [some (aR 0), some (aI l1), some (aI l2), some (aI l3), none] [aI s0, aR 0] [oC 5 [aI x_thrown, aI x_nodes, aI x_room, aI x_states, aI x_kinds, aI x_rules, aR 1, aR 2, aR 3, aR 4, aR 5, aR 6, aR 7, aR 8, aI x_numberings, aI x_wholes, aI x_gone, aI x_steps, aI x_old, aI x_stuck, aI x_answer, aI x_badWhole, aR 9, aR 10, aR 11, aR 12, aR 13, aR 14, aR 15, aR 16, aR 17, aR 18, aI x_same, aI x_at], c1, iC 40 x_event, c3, iC 40 x_sentMany, iC 160 x_sentKind, iC 160 x_sentWhom, c7, c8, c9, c10, c11, c12, c13, c14, c15, c16, c17, c18] bc bs) ∧ ((x_sentMany l1.toNatClampNeg) = 4 → AW X 82 [some (aR 0), some (aI l1), some (aI l2), some (aI l3), none] [aI 1, aI s0, aR 0] [oC 5 [aI x_thrown, aI x_nodes, aI x_room, aI x_states, aI x_kinds, aI x_rules, aR 1, aR 2, aR 3, aR 4, aR 5, aR 6, aR 7, aR 8, aI x_numberings, aI x_wholes, aI x_gone, aI x_steps, aI x_old, aI x_stuck, aI x_answer, aI x_badWhole, aR 9, aR 10, aR 11, aR 12, aR 13, aR 14, aR 15, aR 16, aR 17, aR 18, aI x_same, aI x_at], c1, iC 40 x_event, c3, iC 40 x_sentMany, iC 160 x_sentKind, iC 160 x_sentWhom, c7, c8, c9, c10, c11, c12, c13, c14, c15, c16, c17, c18] bc bs))) :
    AW X 62 [some (aR 0), some (aI l1), some (aI l2), some (aI l3), some (aI l4)] [aI s0, aR 0] [oC 5 [aI x_thrown, aI x_nodes, aI x_room, aI x_states, aI x_kinds, aI x_rules, aR 1, aR 2, aR 3, aR 4, aR 5, aR 6, aR 7, aR 8, aI x_numberings, aI x_wholes, aI x_gone, aI x_steps, aI x_old, aI x_stuck, aI x_answer, aI x_badWhole, aR 9, aR 10, aR 11, aR 12, aR 13, aR 14, aR 15, aR 16, aR 17, aR 18, aI x_same, aI x_at], c1, iC 40 x_event, c3, iC 40 x_sentMany, iC 160 x_sentKind, iC 160 x_sentWhom, c7, c8, c9, c10, c11, c12, c13, c14, c15, c16, c17, c18] bc bs := by
  refine aw_iload K d_RM_sends_62 rfl rfl ?_
  refine aw_if_ne K d_RM_sends_64 (t := 81) (by decide) rfl (fun q => ?_) (fun q => ?_)
  · replace h := h.1 q
    refine aw_less [4] rfl ?_
    exact h
  · replace h := h.2 q
    refine aw_aload_n K d_RM_sends_67 rfl rfl ?_
    refine aw_getf K fd_RM_23 d_RM_sends_68 rfl rfl rfl ?_
    refine aw_iload_n K d_RM_sends_71 rfl rfl ?_
    refine aw_iald K d_RM_sends_72 rfl rfl h.1 ?_
    replace h := h.2
    refine aw_iconst K d_RM_sends_73 rfl (v := 4) (by decide) ?_
    refine aw_icmp_ne K d_RM_sends_74 (t := 81) (by decide) rfl (fun q => ?_) (fun q => ?_)
    · replace h := h.1 q
      refine aw_less [4] rfl ?_
      exact h
    · replace h := h.2 q
      refine aw_iconst K d_RM_sends_77 rfl (v := 1) (by decide) ?_
      refine aw_goto K d_RM_sends_78 (n := 82) (by decide) ?_
      refine aw_less [4] rfl ?_
      exact h
set_option maxRecDepth 20000 in
theorem x_RM_sends_81 {X : am_X} {dd bc bs : Nat} (K : am_ok X b_RM_sends R_RM 5 dd) {post : Option am_V → List am_C → Prop} (hr : am_rt X (some .int) post) {l1 l2 l3 s0 x_thrown x_nodes x_room x_states x_kinds x_rules x_numberings x_wholes x_gone x_steps x_old x_stuck x_answer x_badWhole x_same x_at : Int32} {x_event x_sentMany x_sentKind x_sentWhom : Nat → Int32} {c1 c3 c7 c8 c9 c10 c11 c12 c13 c14 c15 c16 c17 c18 : am_C}
    (h : AW X 82 [some (aR 0), some (aI l1), some (aI l2), some (aI l3), none] [aI 0, aI s0, aR 0] [oC 5 [aI x_thrown, aI x_nodes, aI x_room, aI x_states, aI x_kinds, aI x_rules, aR 1, aR 2, aR 3, aR 4, aR 5, aR 6, aR 7, aR 8, aI x_numberings, aI x_wholes, aI x_gone, aI x_steps, aI x_old, aI x_stuck, aI x_answer, aI x_badWhole, aR 9, aR 10, aR 11, aR 12, aR 13, aR 14, aR 15, aR 16, aR 17, aR 18, aI x_same, aI x_at], c1, iC 40 x_event, c3, iC 40 x_sentMany, iC 160 x_sentKind, iC 160 x_sentWhom, c7, c8, c9, c10, c11, c12, c13, c14, c15, c16, c17, c18] bc bs) :
    AW X 81 [some (aR 0), some (aI l1), some (aI l2), some (aI l3), none] [aI s0, aR 0] [oC 5 [aI x_thrown, aI x_nodes, aI x_room, aI x_states, aI x_kinds, aI x_rules, aR 1, aR 2, aR 3, aR 4, aR 5, aR 6, aR 7, aR 8, aI x_numberings, aI x_wholes, aI x_gone, aI x_steps, aI x_old, aI x_stuck, aI x_answer, aI x_badWhole, aR 9, aR 10, aR 11, aR 12, aR 13, aR 14, aR 15, aR 16, aR 17, aR 18, aI x_same, aI x_at], c1, iC 40 x_event, c3, iC 40 x_sentMany, iC 160 x_sentKind, iC 160 x_sentWhom, c7, c8, c9, c10, c11, c12, c13, c14, c15, c16, c17, c18] bc bs := by
  refine aw_iconst K d_RM_sends_81 rfl (v := 0) (by decide) ?_
  exact h
set_option maxRecDepth 20000 in
theorem x_RM_sends_82 {X : am_X} {dd bc bs : Nat} (K : am_ok X b_RM_sends R_RM 5 dd) {post : Option am_V → List am_C → Prop} (hr : am_rt X (some .int) post) {sp_RM_throwing : am_S} {dd_RM_throwing : Nat} (c_RM_throwing : Con y_RM_throwing b_RM_throwing 3 (some .boolean) dd_RM_throwing 0 0 false sp_RM_throwing) (hdd_RM_throwing : dd_RM_throwing + 1 ≤ dd) {l1 l2 l3 s0 s1 x_thrown x_nodes x_room x_states x_kinds x_rules x_numberings x_wholes x_gone x_steps x_old x_stuck x_answer x_badWhole x_same x_at : Int32} {x_event x_sentMany x_sentKind x_sentWhom : Nat → Int32} {c1 c3 c7 c8 c9 c10 c11 c12 c13 c14 c15 c16 c17 c18 : am_C}
    (h : sp_RM_throwing [aR 0, aI s1, aI s0] [oC 5 [aI x_thrown, aI x_nodes, aI x_room, aI x_states, aI x_kinds, aI x_rules, aR 1, aR 2, aR 3, aR 4, aR 5, aR 6, aR 7, aR 8, aI x_numberings, aI x_wholes, aI x_gone, aI x_steps, aI x_old, aI x_stuck, aI x_answer, aI x_badWhole, aR 9, aR 10, aR 11, aR 12, aR 13, aR 14, aR 15, aR 16, aR 17, aR 18, aI x_same, aI x_at], c1, iC 40 x_event, c3, iC 40 x_sentMany, iC 160 x_sentKind, iC 160 x_sentWhom, c7, c8, c9, c10, c11, c12, c13, c14, c15, c16, c17, c18] (fun rv w' => AW X 85 [some (aR 0), some (aI l1), some (aI l2), some (aI l3), none] (rv.toList ++ []) w' bc bs)) :
    AW X 82 [some (aR 0), some (aI l1), some (aI l2), some (aI l3), none] [aI s0, aI s1, aR 0] [oC 5 [aI x_thrown, aI x_nodes, aI x_room, aI x_states, aI x_kinds, aI x_rules, aR 1, aR 2, aR 3, aR 4, aR 5, aR 6, aR 7, aR 8, aI x_numberings, aI x_wholes, aI x_gone, aI x_steps, aI x_old, aI x_stuck, aI x_answer, aI x_badWhole, aR 9, aR 10, aR 11, aR 12, aR 13, aR 14, aR 15, aR 16, aR 17, aR 18, aI x_same, aI x_at], c1, iC 40 x_event, c3, iC 40 x_sentMany, iC 160 x_sentKind, iC 160 x_sentWhom, c7, c8, c9, c10, c11, c12, c13, c14, c15, c16, c17, c18] bc bs := by
  exact aw_callV K c_RM_throwing cb_RM_103 ci_RM_throwing cs_RM_throwing hdd_RM_throwing (k := 0) rfl rfl d_RM_sends_82 rfl (av := [aI s1, aI s0]) rfl (Nat.le_of_ble_eq_true rfl) h (fun rv w' hF => hF)
set_option maxRecDepth 20000 in
theorem x_RM_sends_85 {X : am_X} {dd bc bs : Nat} (K : am_ok X b_RM_sends R_RM 5 dd) {post : Option am_V → List am_C → Prop} (hr : am_rt X (some .int) post) {sp_RM_forget : am_S} {dd_RM_forget : Nat} (c_RM_forget : Con y_RM_forget b_RM_forget 1 none dd_RM_forget 0 0 false sp_RM_forget) (hdd_RM_forget : dd_RM_forget + 1 ≤ dd) {l1 l2 l3 s0 x_thrown x_nodes x_room x_states x_kinds x_rules x_numberings x_wholes x_gone x_steps x_old x_stuck x_answer x_badWhole x_same x_at : Int32} {x_event x_sentMany x_sentKind x_sentWhom : Nat → Int32} {c1 c3 c7 c8 c9 c10 c11 c12 c13 c14 c15 c16 c17 c18 : am_C}
    (h : (s0 = 0 → sp_RM_forget [aR 0] [oC 5 [aI x_thrown, aI x_nodes, aI x_room, aI x_states, aI x_kinds, aI x_rules, aR 1, aR 2, aR 3, aR 4, aR 5, aR 6, aR 7, aR 8, aI x_numberings, aI x_wholes, aI x_gone, aI x_steps, aI x_old, aI x_stuck, aI x_answer, aI x_badWhole, aR 9, aR 10, aR 11, aR 12, aR 13, aR 14, aR 15, aR 16, aR 17, aR 18, aI x_same, aI x_at], c1, iC 40 x_event, c3, iC 40 x_sentMany, iC 160 x_sentKind, iC 160 x_sentWhom, c7, c8, c9, c10, c11, c12, c13, c14, c15, c16, c17, c18] (fun rv w' => AW X 94 [some (aR 0), some (aI l1), some (aI l2), some (aI l3), none] (rv.toList ++ []) w' bc bs)) ∧ (¬ s0 = 0 → post (some (aI 0)) [oC 5 [aI x_thrown, aI x_nodes, aI x_room, aI x_states, aI x_kinds, aI x_rules, aR 1, aR 2, aR 3, aR 4, aR 5, aR 6, aR 7, aR 8, aI x_numberings, aI x_wholes, aI x_gone, aI x_steps, aI x_old, aI x_stuck, aI x_answer, aI x_badWhole, aR 9, aR 10, aR 11, aR 12, aR 13, aR 14, aR 15, aR 16, aR 17, aR 18, aI x_same, aI x_at], c1, iC 40 x_event, c3, iC 40 x_sentMany, iC 160 x_sentKind, iC 160 x_sentWhom, c7, c8, c9, c10, c11, c12, c13, c14, c15, c16, c17, c18])) :
    AW X 85 [some (aR 0), some (aI l1), some (aI l2), some (aI l3), none] [aI s0] [oC 5 [aI x_thrown, aI x_nodes, aI x_room, aI x_states, aI x_kinds, aI x_rules, aR 1, aR 2, aR 3, aR 4, aR 5, aR 6, aR 7, aR 8, aI x_numberings, aI x_wholes, aI x_gone, aI x_steps, aI x_old, aI x_stuck, aI x_answer, aI x_badWhole, aR 9, aR 10, aR 11, aR 12, aR 13, aR 14, aR 15, aR 16, aR 17, aR 18, aI x_same, aI x_at], c1, iC 40 x_event, c3, iC 40 x_sentMany, iC 160 x_sentKind, iC 160 x_sentWhom, c7, c8, c9, c10, c11, c12, c13, c14, c15, c16, c17, c18] bc bs := by
  refine aw_if_eq K d_RM_sends_85 (t := 90) (by decide) rfl (fun q => ?_) (fun q => ?_)
  · replace h := h.1 q
    refine aw_aload_n K d_RM_sends_90 rfl rfl ?_
    exact aw_callV K c_RM_forget cb_RM_107 ci_RM_forget cs_RM_forget hdd_RM_forget (k := 0) rfl rfl d_RM_sends_91 rfl (av := []) rfl (Nat.le_of_ble_eq_true rfl) h (fun rv w' hF => hF)
  · replace h := h.2 q
    refine aw_iconst K d_RM_sends_88 rfl (v := 0) (by decide) ?_
    exact aw_iret K hr d_RM_sends_89 h
set_option maxRecDepth 20000 in
theorem x_RM_sends_94 {X : am_X} {dd bc bs : Nat} (K : am_ok X b_RM_sends R_RM 5 dd) {post : Option am_V → List am_C → Prop} (hr : am_rt X (some .int) post) {l1 l2 l3 x_thrown x_nodes x_room x_states x_kinds x_rules x_numberings x_wholes x_gone x_steps x_old x_stuck x_answer x_badWhole x_same x_at : Int32} {x_event x_sentMany x_sentKind x_sentWhom : Nat → Int32} {c1 c3 c7 c8 c9 c10 c11 c12 c13 c14 c15 c16 c17 c18 : am_C}
    (h : vp_in l1 40 ∧ vp_in (((4 : Int32) * l1) + (x_sentMany l1.toNatClampNeg)) 160 ∧ vp_in l1 40 ∧ vp_in (((4 : Int32) * l1) + (x_sentMany l1.toNatClampNeg)) 160 ∧ vp_in l1 40 ∧ vp_in l1 40 ∧ vp_in l1 40 ∧ post (some (aI ((upd x_sentMany l1.toNatClampNeg ((x_sentMany l1.toNatClampNeg) + (1 : Int32))) l1.toNatClampNeg))) [oC 5 [aI x_thrown, aI x_nodes, aI x_room, aI x_states, aI x_kinds, aI x_rules, aR 1, aR 2, aR 3, aR 4, aR 5, aR 6, aR 7, aR 8, aI x_numberings, aI x_wholes, aI x_gone, aI x_steps, aI x_old, aI x_stuck, aI x_answer, aI x_badWhole, aR 9, aR 10, aR 11, aR 12, aR 13, aR 14, aR 15, aR 16, aR 17, aR 18, aI x_same, aI x_at], c1, iC 40 x_event, c3, iC 40 (upd x_sentMany l1.toNatClampNeg ((x_sentMany l1.toNatClampNeg) + (1 : Int32))), iC 160 (upd x_sentKind (((4 : Int32) * l1) + (x_sentMany l1.toNatClampNeg)).toNatClampNeg l2), iC 160 (upd x_sentWhom (((4 : Int32) * l1) + (x_sentMany l1.toNatClampNeg)).toNatClampNeg l3), c7, c8, c9, c10, c11, c12, c13, c14, c15, c16, c17, c18]) :
    AW X 94 [some (aR 0), some (aI l1), some (aI l2), some (aI l3), none] [] [oC 5 [aI x_thrown, aI x_nodes, aI x_room, aI x_states, aI x_kinds, aI x_rules, aR 1, aR 2, aR 3, aR 4, aR 5, aR 6, aR 7, aR 8, aI x_numberings, aI x_wholes, aI x_gone, aI x_steps, aI x_old, aI x_stuck, aI x_answer, aI x_badWhole, aR 9, aR 10, aR 11, aR 12, aR 13, aR 14, aR 15, aR 16, aR 17, aR 18, aI x_same, aI x_at], c1, iC 40 x_event, c3, iC 40 x_sentMany, iC 160 x_sentKind, iC 160 x_sentWhom, c7, c8, c9, c10, c11, c12, c13, c14, c15, c16, c17, c18] bc bs := by
  refine aw_aload_n K d_RM_sends_94 rfl rfl ?_
  refine aw_getf K fd_RM_26 d_RM_sends_95 rfl rfl rfl ?_
  refine aw_iconst K d_RM_sends_98 rfl (v := 4) (by decide) ?_
  refine aw_iload_n K d_RM_sends_99 rfl rfl ?_
  refine aw_imul K d_RM_sends_100 rfl ?_
  refine aw_aload_n K d_RM_sends_101 rfl rfl ?_
  refine aw_getf K fd_RM_23 d_RM_sends_102 rfl rfl rfl ?_
  refine aw_iload_n K d_RM_sends_105 rfl rfl ?_
  refine aw_iald K d_RM_sends_106 rfl rfl h.1 ?_
  replace h := h.2
  refine aw_iadd K d_RM_sends_107 rfl ?_
  refine aw_iload_n K d_RM_sends_108 rfl rfl ?_
  refine aw_iast K d_RM_sends_109 rfl rfl h.1 (w' := [oC 5 [aI x_thrown, aI x_nodes, aI x_room, aI x_states, aI x_kinds, aI x_rules, aR 1, aR 2, aR 3, aR 4, aR 5, aR 6, aR 7, aR 8, aI x_numberings, aI x_wholes, aI x_gone, aI x_steps, aI x_old, aI x_stuck, aI x_answer, aI x_badWhole, aR 9, aR 10, aR 11, aR 12, aR 13, aR 14, aR 15, aR 16, aR 17, aR 18, aI x_same, aI x_at], c1, iC 40 x_event, c3, iC 40 x_sentMany, iC 160 (upd x_sentKind (((4 : Int32) * l1) + (x_sentMany l1.toNatClampNeg)).toNatClampNeg l2), iC 160 x_sentWhom, c7, c8, c9, c10, c11, c12, c13, c14, c15, c16, c17, c18]) rfl ?_
  replace h := h.2
  refine aw_aload_n K d_RM_sends_110 rfl rfl ?_
  refine aw_getf K fd_RM_29 d_RM_sends_111 rfl rfl rfl ?_
  refine aw_iconst K d_RM_sends_114 rfl (v := 4) (by decide) ?_
  refine aw_iload_n K d_RM_sends_115 rfl rfl ?_
  refine aw_imul K d_RM_sends_116 rfl ?_
  refine aw_aload_n K d_RM_sends_117 rfl rfl ?_
  refine aw_getf K fd_RM_23 d_RM_sends_118 rfl rfl rfl ?_
  refine aw_iload_n K d_RM_sends_121 rfl rfl ?_
  refine aw_iald K d_RM_sends_122 rfl rfl h.1 ?_
  replace h := h.2
  refine aw_iadd K d_RM_sends_123 rfl ?_
  refine aw_iload_n K d_RM_sends_124 rfl rfl ?_
  refine aw_iast K d_RM_sends_125 rfl rfl h.1 (w' := [oC 5 [aI x_thrown, aI x_nodes, aI x_room, aI x_states, aI x_kinds, aI x_rules, aR 1, aR 2, aR 3, aR 4, aR 5, aR 6, aR 7, aR 8, aI x_numberings, aI x_wholes, aI x_gone, aI x_steps, aI x_old, aI x_stuck, aI x_answer, aI x_badWhole, aR 9, aR 10, aR 11, aR 12, aR 13, aR 14, aR 15, aR 16, aR 17, aR 18, aI x_same, aI x_at], c1, iC 40 x_event, c3, iC 40 x_sentMany, iC 160 (upd x_sentKind (((4 : Int32) * l1) + (x_sentMany l1.toNatClampNeg)).toNatClampNeg l2), iC 160 (upd x_sentWhom (((4 : Int32) * l1) + (x_sentMany l1.toNatClampNeg)).toNatClampNeg l3), c7, c8, c9, c10, c11, c12, c13, c14, c15, c16, c17, c18]) rfl ?_
  replace h := h.2
  refine aw_aload_n K d_RM_sends_126 rfl rfl ?_
  refine aw_getf K fd_RM_23 d_RM_sends_127 rfl rfl rfl ?_
  refine aw_iload_n K d_RM_sends_130 rfl rfl ?_
  refine aw_dup2 K d_RM_sends_131 rfl (fun _ e => nomatch e) (fun _ e => nomatch e) ?_
  refine aw_iald K d_RM_sends_132 rfl rfl h.1 ?_
  replace h := h.2
  refine aw_iconst K d_RM_sends_133 rfl (v := 1) (by decide) ?_
  refine aw_iadd K d_RM_sends_134 rfl ?_
  refine aw_iast K d_RM_sends_135 rfl rfl h.1 (w' := [oC 5 [aI x_thrown, aI x_nodes, aI x_room, aI x_states, aI x_kinds, aI x_rules, aR 1, aR 2, aR 3, aR 4, aR 5, aR 6, aR 7, aR 8, aI x_numberings, aI x_wholes, aI x_gone, aI x_steps, aI x_old, aI x_stuck, aI x_answer, aI x_badWhole, aR 9, aR 10, aR 11, aR 12, aR 13, aR 14, aR 15, aR 16, aR 17, aR 18, aI x_same, aI x_at], c1, iC 40 x_event, c3, iC 40 (upd x_sentMany l1.toNatClampNeg ((x_sentMany l1.toNatClampNeg) + (1 : Int32))), iC 160 (upd x_sentKind (((4 : Int32) * l1) + (x_sentMany l1.toNatClampNeg)).toNatClampNeg l2), iC 160 (upd x_sentWhom (((4 : Int32) * l1) + (x_sentMany l1.toNatClampNeg)).toNatClampNeg l3), c7, c8, c9, c10, c11, c12, c13, c14, c15, c16, c17, c18]) rfl ?_
  replace h := h.2
  refine aw_aload_n K d_RM_sends_136 rfl rfl ?_
  refine aw_getf K fd_RM_23 d_RM_sends_137 rfl rfl rfl ?_
  refine aw_iload_n K d_RM_sends_140 rfl rfl ?_
  refine aw_iald K d_RM_sends_141 rfl rfl h.1 ?_
  replace h := h.2
  exact aw_iret K hr d_RM_sends_142 h
set_option maxRecDepth 20000 in
theorem x_RM_bad_0 {X : am_X} {dd bc bs : Nat} (K : am_ok X b_RM_bad R_RM 3 dd) {post : Option am_V → List am_C → Prop} (hr : am_rt X (some .boolean) post) {sp_RM_isOf : am_S} {dd_RM_isOf : Nat} (c_RM_isOf : Con y_RM_isOf b_RM_isOf 2 (some .boolean) dd_RM_isOf 0 0 false sp_RM_isOf) (hdd_RM_isOf : dd_RM_isOf + 1 ≤ dd) {l1 l2 x_thrown x_nodes x_room x_states x_kinds x_rules x_numberings x_wholes x_gone x_steps x_old x_stuck x_answer x_badWhole x_same x_at : Int32} {x_bad : Nat → Int32} {c1 c2 c3 c4 c5 c6 c8 c9 c10 c11 c12 c13 c14 c15 c16 c17 c18 : am_C}
    (h : sp_RM_isOf [aI l1, aI x_states] [oC 5 [aI x_thrown, aI x_nodes, aI x_room, aI x_states, aI x_kinds, aI x_rules, aR 1, aR 2, aR 3, aR 4, aR 5, aR 6, aR 7, aR 8, aI x_numberings, aI x_wholes, aI x_gone, aI x_steps, aI x_old, aI x_stuck, aI x_answer, aI x_badWhole, aR 9, aR 10, aR 11, aR 12, aR 13, aR 14, aR 15, aR 16, aR 17, aR 18, aI x_same, aI x_at], c1, c2, c3, c4, c5, c6, zC 64 x_bad, c8, c9, c10, c11, c12, c13, c14, c15, c16, c17, c18] (fun rv w' => AW X 9 [some (aR 0), some (aI l1), some (aI l2)] (rv.toList ++ [aR 0]) w' bc bs)) :
    AW X 0 [some (aR 0), some (aI l1), some (aI l2)] [] [oC 5 [aI x_thrown, aI x_nodes, aI x_room, aI x_states, aI x_kinds, aI x_rules, aR 1, aR 2, aR 3, aR 4, aR 5, aR 6, aR 7, aR 8, aI x_numberings, aI x_wholes, aI x_gone, aI x_steps, aI x_old, aI x_stuck, aI x_answer, aI x_badWhole, aR 9, aR 10, aR 11, aR 12, aR 13, aR 14, aR 15, aR 16, aR 17, aR 18, aI x_same, aI x_at], c1, c2, c3, c4, c5, c6, zC 64 x_bad, c8, c9, c10, c11, c12, c13, c14, c15, c16, c17, c18] bc bs := by
  refine aw_aload_n K d_RM_bad_0 rfl rfl ?_
  refine aw_iload_n K d_RM_bad_1 rfl rfl ?_
  refine aw_aload_n K d_RM_bad_2 rfl rfl ?_
  refine aw_getf K fd_RM_7 d_RM_bad_3 rfl rfl rfl ?_
  exact aw_callS K c_RM_isOf cb_RM_113 ct_RM_isOf hdd_RM_isOf d_RM_bad_6 rfl (av := [aI l1, aI x_states]) rfl (Nat.le_of_ble_eq_true rfl) h (fun rv w' hF => hF)
set_option maxRecDepth 20000 in
theorem x_RM_bad_9 {X : am_X} {dd bc bs : Nat} (K : am_ok X b_RM_bad R_RM 3 dd) {post : Option am_V → List am_C → Prop} (hr : am_rt X (some .boolean) post) {sp_RM_isOf : am_S} {dd_RM_isOf : Nat} (c_RM_isOf : Con y_RM_isOf b_RM_isOf 2 (some .boolean) dd_RM_isOf 0 0 false sp_RM_isOf) (hdd_RM_isOf : dd_RM_isOf + 1 ≤ dd) {l1 l2 s0 x_thrown x_nodes x_room x_states x_kinds x_rules x_numberings x_wholes x_gone x_steps x_old x_stuck x_answer x_badWhole x_same x_at : Int32} {x_bad : Nat → Int32} {c1 c2 c3 c4 c5 c6 c8 c9 c10 c11 c12 c13 c14 c15 c16 c17 c18 : am_C}
    (h : (s0 = 0 → AW X 23 [some (aR 0), some (aI l1), some (aI l2)] [aR 0] [oC 5 [aI x_thrown, aI x_nodes, aI x_room, aI x_states, aI x_kinds, aI x_rules, aR 1, aR 2, aR 3, aR 4, aR 5, aR 6, aR 7, aR 8, aI x_numberings, aI x_wholes, aI x_gone, aI x_steps, aI x_old, aI x_stuck, aI x_answer, aI x_badWhole, aR 9, aR 10, aR 11, aR 12, aR 13, aR 14, aR 15, aR 16, aR 17, aR 18, aI x_same, aI x_at], c1, c2, c3, c4, c5, c6, zC 64 x_bad, c8, c9, c10, c11, c12, c13, c14, c15, c16, c17, c18] bc bs) ∧ (¬ s0 = 0 → sp_RM_isOf [aI l2, aI x_states] [oC 5 [aI x_thrown, aI x_nodes, aI x_room, aI x_states, aI x_kinds, aI x_rules, aR 1, aR 2, aR 3, aR 4, aR 5, aR 6, aR 7, aR 8, aI x_numberings, aI x_wholes, aI x_gone, aI x_steps, aI x_old, aI x_stuck, aI x_answer, aI x_badWhole, aR 9, aR 10, aR 11, aR 12, aR 13, aR 14, aR 15, aR 16, aR 17, aR 18, aI x_same, aI x_at], c1, c2, c3, c4, c5, c6, zC 64 x_bad, c8, c9, c10, c11, c12, c13, c14, c15, c16, c17, c18] (fun rv w' => AW X 20 [some (aR 0), some (aI l1), some (aI l2)] (rv.toList ++ [aR 0]) w' bc bs))) :
    AW X 9 [some (aR 0), some (aI l1), some (aI l2)] [aI s0, aR 0] [oC 5 [aI x_thrown, aI x_nodes, aI x_room, aI x_states, aI x_kinds, aI x_rules, aR 1, aR 2, aR 3, aR 4, aR 5, aR 6, aR 7, aR 8, aI x_numberings, aI x_wholes, aI x_gone, aI x_steps, aI x_old, aI x_stuck, aI x_answer, aI x_badWhole, aR 9, aR 10, aR 11, aR 12, aR 13, aR 14, aR 15, aR 16, aR 17, aR 18, aI x_same, aI x_at], c1, c2, c3, c4, c5, c6, zC 64 x_bad, c8, c9, c10, c11, c12, c13, c14, c15, c16, c17, c18] bc bs := by
  refine aw_if_eq K d_RM_bad_9 (t := 23) (by decide) rfl (fun q => ?_) (fun q => ?_)
  · replace h := h.1 q
    exact h
  · replace h := h.2 q
    refine aw_iload_n K d_RM_bad_12 rfl rfl ?_
    refine aw_aload_n K d_RM_bad_13 rfl rfl ?_
    refine aw_getf K fd_RM_7 d_RM_bad_14 rfl rfl rfl ?_
    exact aw_callS K c_RM_isOf cb_RM_113 ct_RM_isOf hdd_RM_isOf d_RM_bad_17 rfl (av := [aI l2, aI x_states]) rfl (Nat.le_of_ble_eq_true rfl) h (fun rv w' hF => hF)
set_option maxRecDepth 20000 in
theorem x_RM_bad_20 {X : am_X} {dd bc bs : Nat} (K : am_ok X b_RM_bad R_RM 3 dd) {post : Option am_V → List am_C → Prop} (hr : am_rt X (some .boolean) post) {l1 l2 s0 x_thrown x_nodes x_room x_states x_kinds x_rules x_numberings x_wholes x_gone x_steps x_old x_stuck x_answer x_badWhole x_same x_at : Int32} {x_bad : Nat → Int32} {c1 c2 c3 c4 c5 c6 c8 c9 c10 c11 c12 c13 c14 c15 c16 c17 c18 : am_C}
    (h : (¬ s0 = 0 → AW X 28 [some (aR 0), some (aI l1), some (aI l2)] [aI 0, aR 0] [oC 5 [aI x_thrown, aI x_nodes, aI x_room, aI x_states, aI x_kinds, aI x_rules, aR 1, aR 2, aR 3, aR 4, aR 5, aR 6, aR 7, aR 8, aI x_numberings, aI x_wholes, aI x_gone, aI x_steps, aI x_old, aI x_stuck, aI x_answer, aI x_badWhole, aR 9, aR 10, aR 11, aR 12, aR 13, aR 14, aR 15, aR 16, aR 17, aR 18, aI x_same, aI x_at], c1, c2, c3, c4, c5, c6, zC 64 x_bad, c8, c9, c10, c11, c12, c13, c14, c15, c16, c17, c18] bc bs) ∧ (s0 = 0 → AW X 23 [some (aR 0), some (aI l1), some (aI l2)] [aR 0] [oC 5 [aI x_thrown, aI x_nodes, aI x_room, aI x_states, aI x_kinds, aI x_rules, aR 1, aR 2, aR 3, aR 4, aR 5, aR 6, aR 7, aR 8, aI x_numberings, aI x_wholes, aI x_gone, aI x_steps, aI x_old, aI x_stuck, aI x_answer, aI x_badWhole, aR 9, aR 10, aR 11, aR 12, aR 13, aR 14, aR 15, aR 16, aR 17, aR 18, aI x_same, aI x_at], c1, c2, c3, c4, c5, c6, zC 64 x_bad, c8, c9, c10, c11, c12, c13, c14, c15, c16, c17, c18] bc bs)) :
    AW X 20 [some (aR 0), some (aI l1), some (aI l2)] [aI s0, aR 0] [oC 5 [aI x_thrown, aI x_nodes, aI x_room, aI x_states, aI x_kinds, aI x_rules, aR 1, aR 2, aR 3, aR 4, aR 5, aR 6, aR 7, aR 8, aI x_numberings, aI x_wholes, aI x_gone, aI x_steps, aI x_old, aI x_stuck, aI x_answer, aI x_badWhole, aR 9, aR 10, aR 11, aR 12, aR 13, aR 14, aR 15, aR 16, aR 17, aR 18, aI x_same, aI x_at], c1, c2, c3, c4, c5, c6, zC 64 x_bad, c8, c9, c10, c11, c12, c13, c14, c15, c16, c17, c18] bc bs := by
  refine aw_if_ne K d_RM_bad_20 (t := 27) (by decide) rfl (fun q => ?_) (fun q => ?_)
  · replace h := h.1 q
    refine aw_iconst K d_RM_bad_27 rfl (v := 0) (by decide) ?_
    exact h
  · replace h := h.2 q
    exact h
set_option maxRecDepth 20000 in
theorem x_RM_bad_23 {X : am_X} {dd bc bs : Nat} (K : am_ok X b_RM_bad R_RM 3 dd) {post : Option am_V → List am_C → Prop} (hr : am_rt X (some .boolean) post) {l1 l2 x_thrown x_nodes x_room x_states x_kinds x_rules x_numberings x_wholes x_gone x_steps x_old x_stuck x_answer x_badWhole x_same x_at : Int32} {x_bad : Nat → Int32} {c1 c2 c3 c4 c5 c6 c8 c9 c10 c11 c12 c13 c14 c15 c16 c17 c18 : am_C}
    (h : AW X 28 [some (aR 0), some (aI l1), some (aI l2)] [aI 1, aR 0] [oC 5 [aI x_thrown, aI x_nodes, aI x_room, aI x_states, aI x_kinds, aI x_rules, aR 1, aR 2, aR 3, aR 4, aR 5, aR 6, aR 7, aR 8, aI x_numberings, aI x_wholes, aI x_gone, aI x_steps, aI x_old, aI x_stuck, aI x_answer, aI x_badWhole, aR 9, aR 10, aR 11, aR 12, aR 13, aR 14, aR 15, aR 16, aR 17, aR 18, aI x_same, aI x_at], c1, c2, c3, c4, c5, c6, zC 64 x_bad, c8, c9, c10, c11, c12, c13, c14, c15, c16, c17, c18] bc bs) :
    AW X 23 [some (aR 0), some (aI l1), some (aI l2)] [aR 0] [oC 5 [aI x_thrown, aI x_nodes, aI x_room, aI x_states, aI x_kinds, aI x_rules, aR 1, aR 2, aR 3, aR 4, aR 5, aR 6, aR 7, aR 8, aI x_numberings, aI x_wholes, aI x_gone, aI x_steps, aI x_old, aI x_stuck, aI x_answer, aI x_badWhole, aR 9, aR 10, aR 11, aR 12, aR 13, aR 14, aR 15, aR 16, aR 17, aR 18, aI x_same, aI x_at], c1, c2, c3, c4, c5, c6, zC 64 x_bad, c8, c9, c10, c11, c12, c13, c14, c15, c16, c17, c18] bc bs := by
  refine aw_iconst K d_RM_bad_23 rfl (v := 1) (by decide) ?_
  refine aw_goto K d_RM_bad_24 (n := 28) (by decide) ?_
  exact h
set_option maxRecDepth 20000 in
theorem x_RM_bad_28 {X : am_X} {dd bc bs : Nat} (K : am_ok X b_RM_bad R_RM 3 dd) {post : Option am_V → List am_C → Prop} (hr : am_rt X (some .boolean) post) {sp_RM_throwing : am_S} {dd_RM_throwing : Nat} (c_RM_throwing : Con y_RM_throwing b_RM_throwing 3 (some .boolean) dd_RM_throwing 0 0 false sp_RM_throwing) (hdd_RM_throwing : dd_RM_throwing + 1 ≤ dd) {l1 l2 s0 x_thrown x_nodes x_room x_states x_kinds x_rules x_numberings x_wholes x_gone x_steps x_old x_stuck x_answer x_badWhole x_same x_at : Int32} {x_bad : Nat → Int32} {c1 c2 c3 c4 c5 c6 c8 c9 c10 c11 c12 c13 c14 c15 c16 c17 c18 : am_C}
    (h : sp_RM_throwing [aR 0, aI s0, aI 0] [oC 5 [aI x_thrown, aI x_nodes, aI x_room, aI x_states, aI x_kinds, aI x_rules, aR 1, aR 2, aR 3, aR 4, aR 5, aR 6, aR 7, aR 8, aI x_numberings, aI x_wholes, aI x_gone, aI x_steps, aI x_old, aI x_stuck, aI x_answer, aI x_badWhole, aR 9, aR 10, aR 11, aR 12, aR 13, aR 14, aR 15, aR 16, aR 17, aR 18, aI x_same, aI x_at], c1, c2, c3, c4, c5, c6, zC 64 x_bad, c8, c9, c10, c11, c12, c13, c14, c15, c16, c17, c18] (fun rv w' => AW X 32 [some (aR 0), some (aI l1), some (aI l2)] (rv.toList ++ []) w' bc bs)) :
    AW X 28 [some (aR 0), some (aI l1), some (aI l2)] [aI s0, aR 0] [oC 5 [aI x_thrown, aI x_nodes, aI x_room, aI x_states, aI x_kinds, aI x_rules, aR 1, aR 2, aR 3, aR 4, aR 5, aR 6, aR 7, aR 8, aI x_numberings, aI x_wholes, aI x_gone, aI x_steps, aI x_old, aI x_stuck, aI x_answer, aI x_badWhole, aR 9, aR 10, aR 11, aR 12, aR 13, aR 14, aR 15, aR 16, aR 17, aR 18, aI x_same, aI x_at], c1, c2, c3, c4, c5, c6, zC 64 x_bad, c8, c9, c10, c11, c12, c13, c14, c15, c16, c17, c18] bc bs := by
  refine aw_iconst K d_RM_bad_28 rfl (v := 0) (by decide) ?_
  exact aw_callV K c_RM_throwing cb_RM_103 ci_RM_throwing cs_RM_throwing hdd_RM_throwing (k := 0) rfl rfl d_RM_bad_29 rfl (av := [aI s0, aI 0]) rfl (Nat.le_of_ble_eq_true rfl) h (fun rv w' hF => hF)
set_option maxRecDepth 20000 in
theorem x_RM_bad_32 {X : am_X} {dd bc bs : Nat} (K : am_ok X b_RM_bad R_RM 3 dd) {post : Option am_V → List am_C → Prop} (hr : am_rt X (some .boolean) post) {sp_RM_forget : am_S} {dd_RM_forget : Nat} (c_RM_forget : Con y_RM_forget b_RM_forget 1 none dd_RM_forget 0 0 false sp_RM_forget) (hdd_RM_forget : dd_RM_forget + 1 ≤ dd) {l1 l2 s0 x_thrown x_nodes x_room x_states x_kinds x_rules x_numberings x_wholes x_gone x_steps x_old x_stuck x_answer x_badWhole x_same x_at : Int32} {x_bad : Nat → Int32} {c1 c2 c3 c4 c5 c6 c8 c9 c10 c11 c12 c13 c14 c15 c16 c17 c18 : am_C}
    (h : (s0 = 0 → vp_in (((8 : Int32) * l1) + l2) 64 ∧ ((x_bad (((8 : Int32) * l1) + l2).toNatClampNeg) = 0 → sp_RM_forget [aR 0] [oC 5 [aI x_thrown, aI x_nodes, aI x_room, aI x_states, aI x_kinds, aI x_rules, aR 1, aR 2, aR 3, aR 4, aR 5, aR 6, aR 7, aR 8, aI x_numberings, aI x_wholes, aI x_gone, aI x_steps, aI x_old, aI x_stuck, aI x_answer, aI x_badWhole, aR 9, aR 10, aR 11, aR 12, aR 13, aR 14, aR 15, aR 16, aR 17, aR 18, aI x_same, aI x_at], c1, c2, c3, c4, c5, c6, zC 64 x_bad, c8, c9, c10, c11, c12, c13, c14, c15, c16, c17, c18] (fun rv w' => AW X 57 [some (aR 0), some (aI l1), some (aI l2)] (rv.toList ++ []) w' bc bs)) ∧ (¬ (x_bad (((8 : Int32) * l1) + l2).toNatClampNeg) = 0 → post (some (aI 0)) [oC 5 [aI x_thrown, aI x_nodes, aI x_room, aI x_states, aI x_kinds, aI x_rules, aR 1, aR 2, aR 3, aR 4, aR 5, aR 6, aR 7, aR 8, aI x_numberings, aI x_wholes, aI x_gone, aI x_steps, aI x_old, aI x_stuck, aI x_answer, aI x_badWhole, aR 9, aR 10, aR 11, aR 12, aR 13, aR 14, aR 15, aR 16, aR 17, aR 18, aI x_same, aI x_at], c1, c2, c3, c4, c5, c6, zC 64 x_bad, c8, c9, c10, c11, c12, c13, c14, c15, c16, c17, c18])) ∧ (¬ s0 = 0 → post (some (aI 0)) [oC 5 [aI x_thrown, aI x_nodes, aI x_room, aI x_states, aI x_kinds, aI x_rules, aR 1, aR 2, aR 3, aR 4, aR 5, aR 6, aR 7, aR 8, aI x_numberings, aI x_wholes, aI x_gone, aI x_steps, aI x_old, aI x_stuck, aI x_answer, aI x_badWhole, aR 9, aR 10, aR 11, aR 12, aR 13, aR 14, aR 15, aR 16, aR 17, aR 18, aI x_same, aI x_at], c1, c2, c3, c4, c5, c6, zC 64 x_bad, c8, c9, c10, c11, c12, c13, c14, c15, c16, c17, c18])) :
    AW X 32 [some (aR 0), some (aI l1), some (aI l2)] [aI s0] [oC 5 [aI x_thrown, aI x_nodes, aI x_room, aI x_states, aI x_kinds, aI x_rules, aR 1, aR 2, aR 3, aR 4, aR 5, aR 6, aR 7, aR 8, aI x_numberings, aI x_wholes, aI x_gone, aI x_steps, aI x_old, aI x_stuck, aI x_answer, aI x_badWhole, aR 9, aR 10, aR 11, aR 12, aR 13, aR 14, aR 15, aR 16, aR 17, aR 18, aI x_same, aI x_at], c1, c2, c3, c4, c5, c6, zC 64 x_bad, c8, c9, c10, c11, c12, c13, c14, c15, c16, c17, c18] bc bs := by
  refine aw_if_eq K d_RM_bad_32 (t := 37) (by decide) rfl (fun q => ?_) (fun q => ?_)
  · replace h := h.1 q
    refine aw_aload_n K d_RM_bad_37 rfl rfl ?_
    refine aw_getf K fd_RM_32 d_RM_bad_38 rfl rfl rfl ?_
    refine aw_bipush K d_RM_bad_41 rfl (v := 8) (by decide) ?_
    refine aw_iload_n K d_RM_bad_43 rfl rfl ?_
    refine aw_imul K d_RM_bad_44 rfl ?_
    refine aw_iload_n K d_RM_bad_45 rfl rfl ?_
    refine aw_iadd K d_RM_bad_46 rfl ?_
    refine aw_zald K d_RM_bad_47 rfl rfl h.1 ?_
    replace h := h.2
    refine aw_if_eq K d_RM_bad_48 (t := 53) (by decide) rfl (fun q => ?_) (fun q => ?_)
    · replace h := h.1 q
      refine aw_aload_n K d_RM_bad_53 rfl rfl ?_
      exact aw_callV K c_RM_forget cb_RM_107 ci_RM_forget cs_RM_forget hdd_RM_forget (k := 0) rfl rfl d_RM_bad_54 rfl (av := []) rfl (Nat.le_of_ble_eq_true rfl) h (fun rv w' hF => hF)
    · replace h := h.2 q
      refine aw_iconst K d_RM_bad_51 rfl (v := 0) (by decide) ?_
      exact aw_zret K hr d_RM_bad_52 (Or.inl rfl) h
  · replace h := h.2 q
    refine aw_iconst K d_RM_bad_35 rfl (v := 0) (by decide) ?_
    exact aw_zret K hr d_RM_bad_36 (Or.inl rfl) h
set_option maxRecDepth 20000 in
theorem x_RM_bad_57 {X : am_X} {dd bc bs : Nat} (K : am_ok X b_RM_bad R_RM 3 dd) {post : Option am_V → List am_C → Prop} (hr : am_rt X (some .boolean) post) {l1 l2 x_thrown x_nodes x_room x_states x_kinds x_rules x_numberings x_wholes x_gone x_steps x_old x_stuck x_answer x_badWhole x_same x_at : Int32} {x_bad : Nat → Int32} {c1 c2 c3 c4 c5 c6 c8 c9 c10 c11 c12 c13 c14 c15 c16 c17 c18 : am_C}
    (h : vp_in (((8 : Int32) * l1) + l2) 64 ∧ vp_in (((8 : Int32) * l2) + l1) 64 ∧ post (some (aI 1)) [oC 5 [aI x_thrown, aI x_nodes, aI x_room, aI x_states, aI x_kinds, aI x_rules, aR 1, aR 2, aR 3, aR 4, aR 5, aR 6, aR 7, aR 8, aI x_numberings, aI x_wholes, aI x_gone, aI x_steps, aI x_old, aI x_stuck, aI x_answer, aI x_badWhole, aR 9, aR 10, aR 11, aR 12, aR 13, aR 14, aR 15, aR 16, aR 17, aR 18, aI x_same, aI x_at], c1, c2, c3, c4, c5, c6, zC 64 (upd (upd x_bad (((8 : Int32) * l1) + l2).toNatClampNeg (vp_nar .boolean 1)) (((8 : Int32) * l2) + l1).toNatClampNeg (vp_nar .boolean 1)), c8, c9, c10, c11, c12, c13, c14, c15, c16, c17, c18]) :
    AW X 57 [some (aR 0), some (aI l1), some (aI l2)] [] [oC 5 [aI x_thrown, aI x_nodes, aI x_room, aI x_states, aI x_kinds, aI x_rules, aR 1, aR 2, aR 3, aR 4, aR 5, aR 6, aR 7, aR 8, aI x_numberings, aI x_wholes, aI x_gone, aI x_steps, aI x_old, aI x_stuck, aI x_answer, aI x_badWhole, aR 9, aR 10, aR 11, aR 12, aR 13, aR 14, aR 15, aR 16, aR 17, aR 18, aI x_same, aI x_at], c1, c2, c3, c4, c5, c6, zC 64 x_bad, c8, c9, c10, c11, c12, c13, c14, c15, c16, c17, c18] bc bs := by
  refine aw_aload_n K d_RM_bad_57 rfl rfl ?_
  refine aw_getf K fd_RM_32 d_RM_bad_58 rfl rfl rfl ?_
  refine aw_bipush K d_RM_bad_61 rfl (v := 8) (by decide) ?_
  refine aw_iload_n K d_RM_bad_63 rfl rfl ?_
  refine aw_imul K d_RM_bad_64 rfl ?_
  refine aw_iload_n K d_RM_bad_65 rfl rfl ?_
  refine aw_iadd K d_RM_bad_66 rfl ?_
  refine aw_iconst K d_RM_bad_67 rfl (v := 1) (by decide) ?_
  refine aw_zast K d_RM_bad_68 rfl rfl h.1 (w' := [oC 5 [aI x_thrown, aI x_nodes, aI x_room, aI x_states, aI x_kinds, aI x_rules, aR 1, aR 2, aR 3, aR 4, aR 5, aR 6, aR 7, aR 8, aI x_numberings, aI x_wholes, aI x_gone, aI x_steps, aI x_old, aI x_stuck, aI x_answer, aI x_badWhole, aR 9, aR 10, aR 11, aR 12, aR 13, aR 14, aR 15, aR 16, aR 17, aR 18, aI x_same, aI x_at], c1, c2, c3, c4, c5, c6, zC 64 (upd x_bad (((8 : Int32) * l1) + l2).toNatClampNeg (vp_nar .boolean 1)), c8, c9, c10, c11, c12, c13, c14, c15, c16, c17, c18]) rfl ?_
  replace h := h.2
  refine aw_aload_n K d_RM_bad_69 rfl rfl ?_
  refine aw_getf K fd_RM_32 d_RM_bad_70 rfl rfl rfl ?_
  refine aw_bipush K d_RM_bad_73 rfl (v := 8) (by decide) ?_
  refine aw_iload_n K d_RM_bad_75 rfl rfl ?_
  refine aw_imul K d_RM_bad_76 rfl ?_
  refine aw_iload_n K d_RM_bad_77 rfl rfl ?_
  refine aw_iadd K d_RM_bad_78 rfl ?_
  refine aw_iconst K d_RM_bad_79 rfl (v := 1) (by decide) ?_
  refine aw_zast K d_RM_bad_80 rfl rfl h.1 (w' := [oC 5 [aI x_thrown, aI x_nodes, aI x_room, aI x_states, aI x_kinds, aI x_rules, aR 1, aR 2, aR 3, aR 4, aR 5, aR 6, aR 7, aR 8, aI x_numberings, aI x_wholes, aI x_gone, aI x_steps, aI x_old, aI x_stuck, aI x_answer, aI x_badWhole, aR 9, aR 10, aR 11, aR 12, aR 13, aR 14, aR 15, aR 16, aR 17, aR 18, aI x_same, aI x_at], c1, c2, c3, c4, c5, c6, zC 64 (upd (upd x_bad (((8 : Int32) * l1) + l2).toNatClampNeg (vp_nar .boolean 1)) (((8 : Int32) * l2) + l1).toNatClampNeg (vp_nar .boolean 1)), c8, c9, c10, c11, c12, c13, c14, c15, c16, c17, c18]) rfl ?_
  replace h := h.2
  refine aw_iconst K d_RM_bad_81 rfl (v := 1) (by decide) ?_
  exact aw_zret K hr d_RM_bad_82 (Or.inr rfl) h
set_option maxRecDepth 20000 in
theorem x_RM_number_0 {X : am_X} {dd bc bs : Nat} (K : am_ok X b_RM_number R_RM 4 dd) {post : Option am_V → List am_C → Prop} (hr : am_rt X none post) {l1 x_thrown x_nodes x_room x_states x_kinds x_rules x_numberings x_wholes x_gone x_steps x_old x_stuck x_answer x_badWhole x_same x_at : Int32} {x_numbering x_next x_other : Nat → Int32} {c1 c2 c3 c4 c5 c6 c7 c9 c10 c11 c12 c13 c14 c15 c18 : am_C}
    (h : AW X 2 [some (aR 0), some (aI l1), some (aI 0), none] [] [oC 5 [aI x_thrown, aI x_nodes, aI x_room, aI x_states, aI x_kinds, aI x_rules, aR 1, aR 2, aR 3, aR 4, aR 5, aR 6, aR 7, aR 8, aI x_numberings, aI x_wholes, aI x_gone, aI x_steps, aI x_old, aI x_stuck, aI x_answer, aI x_badWhole, aR 9, aR 10, aR 11, aR 12, aR 13, aR 14, aR 15, aR 16, aR 17, aR 18, aI x_same, aI x_at], c1, c2, c3, c4, c5, c6, c7, iC 96 x_numbering, c9, c10, c11, c12, c13, c14, c15, iC 12 x_next, iC 12 x_other, c18] bc bs) :
    AW X 0 [some (aR 0), some (aI l1), none, none] [] [oC 5 [aI x_thrown, aI x_nodes, aI x_room, aI x_states, aI x_kinds, aI x_rules, aR 1, aR 2, aR 3, aR 4, aR 5, aR 6, aR 7, aR 8, aI x_numberings, aI x_wholes, aI x_gone, aI x_steps, aI x_old, aI x_stuck, aI x_answer, aI x_badWhole, aR 9, aR 10, aR 11, aR 12, aR 13, aR 14, aR 15, aR 16, aR 17, aR 18, aI x_same, aI x_at], c1, c2, c3, c4, c5, c6, c7, iC 96 x_numbering, c9, c10, c11, c12, c13, c14, c15, iC 12 x_next, iC 12 x_other, c18] bc bs := by
  refine aw_iconst K d_RM_number_0 rfl (v := 0) (by decide) ?_
  refine aw_istore_n K d_RM_number_1 rfl (by decide) (lv' := [some (aR 0), some (aI l1), some (aI 0), none]) rfl ?_
  exact h
set_option maxRecDepth 20000 in
theorem x_RM_number_2 {X : am_X} {dd bc bs : Nat} (K : am_ok X b_RM_number R_RM 4 dd) {post : Option am_V → List am_C → Prop} (hr : am_rt X none post) {l1 l2 x_thrown x_nodes x_room x_states x_kinds x_rules x_numberings x_wholes x_gone x_steps x_old x_stuck x_answer x_badWhole x_same x_at : Int32} {x_numbering x_next x_other : Nat → Int32} {c1 c2 c3 c4 c5 c6 c7 c9 c10 c11 c12 c13 c14 c15 c18 : am_C}
    (h : (5 ≤ l2 → AW X 22 [some (aR 0), some (aI l1), some (aI 0), none] [] [oC 5 [aI x_thrown, aI x_nodes, aI x_room, aI x_states, aI x_kinds, aI x_rules, aR 1, aR 2, aR 3, aR 4, aR 5, aR 6, aR 7, aR 8, aI x_numberings, aI x_wholes, aI x_gone, aI x_steps, aI x_old, aI x_stuck, aI x_answer, aI x_badWhole, aR 9, aR 10, aR 11, aR 12, aR 13, aR 14, aR 15, aR 16, aR 17, aR 18, aI x_same, aI x_at], c1, c2, c3, c4, c5, c6, c7, iC 96 x_numbering, c9, c10, c11, c12, c13, c14, c15, iC 12 x_next, iC 12 x_other, c18] bc bs) ∧ (¬ 5 ≤ l2 → vp_in l2 12 ∧ AW X 2 [some (aR 0), some (aI l1), some (aI (l2 + 1)), none] [] [oC 5 [aI x_thrown, aI x_nodes, aI x_room, aI x_states, aI x_kinds, aI x_rules, aR 1, aR 2, aR 3, aR 4, aR 5, aR 6, aR 7, aR 8, aI x_numberings, aI x_wholes, aI x_gone, aI x_steps, aI x_old, aI x_stuck, aI x_answer, aI x_badWhole, aR 9, aR 10, aR 11, aR 12, aR 13, aR 14, aR 15, aR 16, aR 17, aR 18, aI x_same, aI x_at], c1, c2, c3, c4, c5, c6, c7, iC 96 x_numbering, c9, c10, c11, c12, c13, c14, c15, iC 12 x_next, iC 12 (upd x_other l2.toNatClampNeg 0), c18] bc bs)) :
    AW X 2 [some (aR 0), some (aI l1), some (aI l2), none] [] [oC 5 [aI x_thrown, aI x_nodes, aI x_room, aI x_states, aI x_kinds, aI x_rules, aR 1, aR 2, aR 3, aR 4, aR 5, aR 6, aR 7, aR 8, aI x_numberings, aI x_wholes, aI x_gone, aI x_steps, aI x_old, aI x_stuck, aI x_answer, aI x_badWhole, aR 9, aR 10, aR 11, aR 12, aR 13, aR 14, aR 15, aR 16, aR 17, aR 18, aI x_same, aI x_at], c1, c2, c3, c4, c5, c6, c7, iC 96 x_numbering, c9, c10, c11, c12, c13, c14, c15, iC 12 x_next, iC 12 x_other, c18] bc bs := by
  refine aw_iload_n K d_RM_number_2 rfl rfl ?_
  refine aw_iconst K d_RM_number_3 rfl (v := 5) (by decide) ?_
  refine aw_icmp_ge K d_RM_number_4 (t := 20) (by decide) rfl (fun q => ?_) (fun q => ?_)
  · replace h := h.1 q
    refine aw_iconst K d_RM_number_20 rfl (v := 0) (by decide) ?_
    refine aw_istore_n K d_RM_number_21 rfl (by decide) (lv' := [some (aR 0), some (aI l1), some (aI 0), none]) rfl ?_
    exact h
  · replace h := h.2 q
    refine aw_aload_n K d_RM_number_7 rfl rfl ?_
    refine aw_getf K fd_RM_64 d_RM_number_8 rfl rfl rfl ?_
    refine aw_iload_n K d_RM_number_11 rfl rfl ?_
    refine aw_iconst K d_RM_number_12 rfl (v := 0) (by decide) ?_
    refine aw_iast K d_RM_number_13 rfl rfl h.1 (w' := [oC 5 [aI x_thrown, aI x_nodes, aI x_room, aI x_states, aI x_kinds, aI x_rules, aR 1, aR 2, aR 3, aR 4, aR 5, aR 6, aR 7, aR 8, aI x_numberings, aI x_wholes, aI x_gone, aI x_steps, aI x_old, aI x_stuck, aI x_answer, aI x_badWhole, aR 9, aR 10, aR 11, aR 12, aR 13, aR 14, aR 15, aR 16, aR 17, aR 18, aI x_same, aI x_at], c1, c2, c3, c4, c5, c6, c7, iC 96 x_numbering, c9, c10, c11, c12, c13, c14, c15, iC 12 x_next, iC 12 (upd x_other l2.toNatClampNeg 0), c18]) rfl ?_
    replace h := h.2
    refine aw_iinc K d_RM_number_14 rfl rfl (v := l2 + 1) rfl (by decide) (lv' := [some (aR 0), some (aI l1), some (aI (l2 + 1)), none]) rfl ?_
    refine aw_goto K d_RM_number_17 (n := 2) (by decide) ?_
    exact h
set_option maxRecDepth 20000 in
theorem x_RM_number_22 {X : am_X} {dd bc bs : Nat} (K : am_ok X b_RM_number R_RM 4 dd) {post : Option am_V → List am_C → Prop} (hr : am_rt X none post) {l1 l2 x_thrown x_nodes x_room x_states x_kinds x_rules x_numberings x_wholes x_gone x_steps x_old x_stuck x_answer x_badWhole x_same x_at : Int32} {x_numbering x_next x_other : Nat → Int32} {c1 c2 c3 c4 c5 c6 c7 c9 c10 c11 c12 c13 c14 c15 c18 : am_C}
    (h : (x_nodes ≤ l2 → AW X 59 [some (aR 0), some (aI l1), some (aI 0), none] [] [oC 5 [aI x_thrown, aI x_nodes, aI x_room, aI x_states, aI x_kinds, aI x_rules, aR 1, aR 2, aR 3, aR 4, aR 5, aR 6, aR 7, aR 8, aI x_numberings, aI x_wholes, aI x_gone, aI x_steps, aI x_old, aI x_stuck, aI x_answer, aI x_badWhole, aR 9, aR 10, aR 11, aR 12, aR 13, aR 14, aR 15, aR 16, aR 17, aR 18, aI x_same, aI x_at], c1, c2, c3, c4, c5, c6, c7, iC 96 x_numbering, c9, c10, c11, c12, c13, c14, c15, iC 12 x_next, iC 12 x_other, c18] bc bs) ∧ (¬ x_nodes ≤ l2 → vp_in (((4 : Int32) * l1) + l2) 96 ∧ vp_in l2 12 ∧ vp_in (x_numbering (((4 : Int32) * l1) + l2).toNatClampNeg) 12 ∧ AW X 22 [some (aR 0), some (aI l1), some (aI (l2 + 1)), none] [] [oC 5 [aI x_thrown, aI x_nodes, aI x_room, aI x_states, aI x_kinds, aI x_rules, aR 1, aR 2, aR 3, aR 4, aR 5, aR 6, aR 7, aR 8, aI x_numberings, aI x_wholes, aI x_gone, aI x_steps, aI x_old, aI x_stuck, aI x_answer, aI x_badWhole, aR 9, aR 10, aR 11, aR 12, aR 13, aR 14, aR 15, aR 16, aR 17, aR 18, aI x_same, aI x_at], c1, c2, c3, c4, c5, c6, c7, iC 96 x_numbering, c9, c10, c11, c12, c13, c14, c15, iC 12 x_next, iC 12 (upd x_other (x_numbering (((4 : Int32) * l1) + l2).toNatClampNeg).toNatClampNeg (x_next l2.toNatClampNeg)), c18] bc bs)) :
    AW X 22 [some (aR 0), some (aI l1), some (aI l2), none] [] [oC 5 [aI x_thrown, aI x_nodes, aI x_room, aI x_states, aI x_kinds, aI x_rules, aR 1, aR 2, aR 3, aR 4, aR 5, aR 6, aR 7, aR 8, aI x_numberings, aI x_wholes, aI x_gone, aI x_steps, aI x_old, aI x_stuck, aI x_answer, aI x_badWhole, aR 9, aR 10, aR 11, aR 12, aR 13, aR 14, aR 15, aR 16, aR 17, aR 18, aI x_same, aI x_at], c1, c2, c3, c4, c5, c6, c7, iC 96 x_numbering, c9, c10, c11, c12, c13, c14, c15, iC 12 x_next, iC 12 x_other, c18] bc bs := by
  refine aw_iload_n K d_RM_number_22 rfl rfl ?_
  refine aw_aload_n K d_RM_number_23 rfl rfl ?_
  refine aw_getf K fd_RM_70 d_RM_number_24 rfl rfl rfl ?_
  refine aw_icmp_ge K d_RM_number_27 (t := 57) (by decide) rfl (fun q => ?_) (fun q => ?_)
  · replace h := h.1 q
    refine aw_iconst K d_RM_number_57 rfl (v := 0) (by decide) ?_
    refine aw_istore_n K d_RM_number_58 rfl (by decide) (lv' := [some (aR 0), some (aI l1), some (aI 0), none]) rfl ?_
    exact h
  · replace h := h.2 q
    refine aw_aload_n K d_RM_number_30 rfl rfl ?_
    refine aw_getf K fd_RM_64 d_RM_number_31 rfl rfl rfl ?_
    refine aw_aload_n K d_RM_number_34 rfl rfl ?_
    refine aw_getf K fd_RM_36 d_RM_number_35 rfl rfl rfl ?_
    refine aw_iconst K d_RM_number_38 rfl (v := 4) (by decide) ?_
    refine aw_iload_n K d_RM_number_39 rfl rfl ?_
    refine aw_imul K d_RM_number_40 rfl ?_
    refine aw_iload_n K d_RM_number_41 rfl rfl ?_
    refine aw_iadd K d_RM_number_42 rfl ?_
    refine aw_iald K d_RM_number_43 rfl rfl h.1 ?_
    replace h := h.2
    refine aw_aload_n K d_RM_number_44 rfl rfl ?_
    refine aw_getf K fd_RM_61 d_RM_number_45 rfl rfl rfl ?_
    refine aw_iload_n K d_RM_number_48 rfl rfl ?_
    refine aw_iald K d_RM_number_49 rfl rfl h.1 ?_
    replace h := h.2
    refine aw_iast K d_RM_number_50 rfl rfl h.1 (w' := [oC 5 [aI x_thrown, aI x_nodes, aI x_room, aI x_states, aI x_kinds, aI x_rules, aR 1, aR 2, aR 3, aR 4, aR 5, aR 6, aR 7, aR 8, aI x_numberings, aI x_wholes, aI x_gone, aI x_steps, aI x_old, aI x_stuck, aI x_answer, aI x_badWhole, aR 9, aR 10, aR 11, aR 12, aR 13, aR 14, aR 15, aR 16, aR 17, aR 18, aI x_same, aI x_at], c1, c2, c3, c4, c5, c6, c7, iC 96 x_numbering, c9, c10, c11, c12, c13, c14, c15, iC 12 x_next, iC 12 (upd x_other (x_numbering (((4 : Int32) * l1) + l2).toNatClampNeg).toNatClampNeg (x_next l2.toNatClampNeg)), c18]) rfl ?_
    replace h := h.2
    refine aw_iinc K d_RM_number_51 rfl rfl (v := l2 + 1) rfl (by decide) (lv' := [some (aR 0), some (aI l1), some (aI (l2 + 1)), none]) rfl ?_
    refine aw_goto K d_RM_number_54 (n := 22) (by decide) ?_
    exact h
set_option maxRecDepth 20000 in
theorem x_RM_number_59 {X : am_X} {dd bc bs : Nat} (K : am_ok X b_RM_number R_RM 4 dd) {post : Option am_V → List am_C → Prop} (hr : am_rt X none post) {sp_RM_add_17 : am_S} {dd_RM_add_17 : Nat} (c_RM_add_17 : Con y_RM_add b_RM_add 5 none dd_RM_add_17 0 0 false sp_RM_add_17) (hdd_RM_add_17 : dd_RM_add_17 + 1 ≤ dd) {l1 l2 x_thrown x_nodes x_room x_states x_kinds x_rules x_numberings x_wholes x_gone x_steps x_old x_stuck x_answer x_badWhole x_same x_at : Int32} {x_numbering x_next x_other : Nat → Int32} {c1 c2 c3 c4 c5 c6 c7 c9 c10 c11 c12 c13 c14 c15 c18 : am_C}
    (h : ((x_next (4 : Int32).toNatClampNeg) ≤ l2 → post none [oC 5 [aI x_thrown, aI x_nodes, aI x_room, aI x_states, aI x_kinds, aI x_rules, aR 1, aR 2, aR 3, aR 4, aR 5, aR 6, aR 7, aR 8, aI x_numberings, aI x_wholes, aI x_gone, aI x_steps, aI x_old, aI x_stuck, aI x_answer, aI x_badWhole, aR 9, aR 10, aR 11, aR 12, aR 13, aR 14, aR 15, aR 16, aR 17, aR 18, aI x_same, aI x_at], c1, c2, c3, c4, c5, c6, c7, iC 96 x_numbering, c9, c10, c11, c12, c13, c14, c15, iC 12 x_next, iC 12 x_other, c18]) ∧ (¬ (x_next (4 : Int32).toNatClampNeg) ≤ l2 → vp_in ((5 : Int32) + l2) 12 ∧ vp_in (((4 : Int32) * l1) + (((x_next ((5 : Int32) + l2).toNatClampNeg) / (4 : Int32)) - ((x_next ((5 : Int32) + l2).toNatClampNeg) / (4 : Int32)) / (4 : Int32) * (4 : Int32))) 96 ∧ vp_in (((4 : Int32) * l1) + ((x_next ((5 : Int32) + l2).toNatClampNeg) - (x_next ((5 : Int32) + l2).toNatClampNeg) / (4 : Int32) * (4 : Int32))) 96 ∧ sp_RM_add_17 [aR 0, aR 17, aI ((((16 : Int32) * ((x_next ((5 : Int32) + l2).toNatClampNeg) / (16 : Int32))) + ((4 : Int32) * (x_numbering (((4 : Int32) * l1) + (((x_next ((5 : Int32) + l2).toNatClampNeg) / (4 : Int32)) - ((x_next ((5 : Int32) + l2).toNatClampNeg) / (4 : Int32)) / (4 : Int32) * (4 : Int32))).toNatClampNeg))) + (x_numbering (((4 : Int32) * l1) + ((x_next ((5 : Int32) + l2).toNatClampNeg) - (x_next ((5 : Int32) + l2).toNatClampNeg) / (4 : Int32) * (4 : Int32))).toNatClampNeg))] [oC 5 [aI x_thrown, aI x_nodes, aI x_room, aI x_states, aI x_kinds, aI x_rules, aR 1, aR 2, aR 3, aR 4, aR 5, aR 6, aR 7, aR 8, aI x_numberings, aI x_wholes, aI x_gone, aI x_steps, aI x_old, aI x_stuck, aI x_answer, aI x_badWhole, aR 9, aR 10, aR 11, aR 12, aR 13, aR 14, aR 15, aR 16, aR 17, aR 18, aI x_same, aI x_at], c1, c2, c3, c4, c5, c6, c7, iC 96 x_numbering, c9, c10, c11, c12, c13, c14, c15, iC 12 x_next, iC 12 x_other, c18] (fun rv w' => AW X 123 [some (aR 0), some (aI l1), some (aI l2), none] (rv.toList ++ []) w' bc bs))) :
    AW X 59 [some (aR 0), some (aI l1), some (aI l2), none] [] [oC 5 [aI x_thrown, aI x_nodes, aI x_room, aI x_states, aI x_kinds, aI x_rules, aR 1, aR 2, aR 3, aR 4, aR 5, aR 6, aR 7, aR 8, aI x_numberings, aI x_wholes, aI x_gone, aI x_steps, aI x_old, aI x_stuck, aI x_answer, aI x_badWhole, aR 9, aR 10, aR 11, aR 12, aR 13, aR 14, aR 15, aR 16, aR 17, aR 18, aI x_same, aI x_at], c1, c2, c3, c4, c5, c6, c7, iC 96 x_numbering, c9, c10, c11, c12, c13, c14, c15, iC 12 x_next, iC 12 x_other, c18] bc bs := by
  refine aw_iload_n K d_RM_number_59 rfl rfl ?_
  refine aw_aload_n K d_RM_number_60 rfl rfl ?_
  refine aw_getf K fd_RM_61 d_RM_number_61 rfl rfl rfl ?_
  refine aw_iconst K d_RM_number_64 rfl (v := 4) (by decide) ?_
  refine aw_iald K d_RM_number_65 rfl rfl (vp_in_nI (n := 4) (by decide) (by decide)) ?_
  refine aw_icmp_ge K d_RM_number_66 (t := 129) (by decide) rfl (fun q => ?_) (fun q => ?_)
  · replace h := h.1 q
    exact aw_vret K hr d_RM_number_129 h
  · replace h := h.2 q
    refine aw_aload_n K d_RM_number_69 rfl rfl ?_
    refine aw_getf K fd_RM_61 d_RM_number_70 rfl rfl rfl ?_
    refine aw_iconst K d_RM_number_73 rfl (v := 5) (by decide) ?_
    refine aw_iload_n K d_RM_number_74 rfl rfl ?_
    refine aw_iadd K d_RM_number_75 rfl ?_
    refine aw_iald K d_RM_number_76 rfl rfl h.1 ?_
    replace h := h.2
    refine aw_istore_n K d_RM_number_77 rfl (by decide) (lv' := [some (aR 0), some (aI l1), some (aI l2), some (aI (x_next ((5 : Int32) + l2).toNatClampNeg))]) rfl ?_
    refine aw_aload_n K d_RM_number_78 rfl rfl ?_
    refine aw_aload_n K d_RM_number_79 rfl rfl ?_
    refine aw_getf K fd_RM_64 d_RM_number_80 rfl rfl rfl ?_
    refine aw_bipush K d_RM_number_83 rfl (v := 16) (by decide) ?_
    refine aw_iload_n K d_RM_number_85 rfl rfl ?_
    refine aw_bipush K d_RM_number_86 rfl (v := 16) (by decide) ?_
    refine aw_idiv K d_RM_number_88 rfl (by decide) ?_
    refine aw_imul K d_RM_number_89 rfl ?_
    refine aw_iconst K d_RM_number_90 rfl (v := 4) (by decide) ?_
    refine aw_aload_n K d_RM_number_91 rfl rfl ?_
    refine aw_getf K fd_RM_36 d_RM_number_92 rfl rfl rfl ?_
    refine aw_iconst K d_RM_number_95 rfl (v := 4) (by decide) ?_
    refine aw_iload_n K d_RM_number_96 rfl rfl ?_
    refine aw_imul K d_RM_number_97 rfl ?_
    refine aw_iload_n K d_RM_number_98 rfl rfl ?_
    refine aw_iconst K d_RM_number_99 rfl (v := 4) (by decide) ?_
    refine aw_idiv K d_RM_number_100 rfl (by decide) ?_
    refine aw_iconst K d_RM_number_101 rfl (v := 4) (by decide) ?_
    refine aw_irem K d_RM_number_102 rfl (by decide) ?_
    refine aw_iadd K d_RM_number_103 rfl ?_
    refine aw_iald K d_RM_number_104 rfl rfl h.1 ?_
    replace h := h.2
    refine aw_imul K d_RM_number_105 rfl ?_
    refine aw_iadd K d_RM_number_106 rfl ?_
    refine aw_aload_n K d_RM_number_107 rfl rfl ?_
    refine aw_getf K fd_RM_36 d_RM_number_108 rfl rfl rfl ?_
    refine aw_iconst K d_RM_number_111 rfl (v := 4) (by decide) ?_
    refine aw_iload_n K d_RM_number_112 rfl rfl ?_
    refine aw_imul K d_RM_number_113 rfl ?_
    refine aw_iload_n K d_RM_number_114 rfl rfl ?_
    refine aw_iconst K d_RM_number_115 rfl (v := 4) (by decide) ?_
    refine aw_irem K d_RM_number_116 rfl (by decide) ?_
    refine aw_iadd K d_RM_number_117 rfl ?_
    refine aw_iald K d_RM_number_118 rfl rfl h.1 ?_
    replace h := h.2
    refine aw_iadd K d_RM_number_119 rfl ?_
    refine aw_less [3] rfl ?_
    exact aw_callV K c_RM_add_17 cb_RM_120 ci_RM_add cs_RM_add hdd_RM_add_17 (k := 0) rfl rfl d_RM_number_120 rfl (av := [aR 17, aI ((((16 : Int32) * ((x_next ((5 : Int32) + l2).toNatClampNeg) / (16 : Int32))) + ((4 : Int32) * (x_numbering (((4 : Int32) * l1) + (((x_next ((5 : Int32) + l2).toNatClampNeg) / (4 : Int32)) - ((x_next ((5 : Int32) + l2).toNatClampNeg) / (4 : Int32)) / (4 : Int32) * (4 : Int32))).toNatClampNeg))) + (x_numbering (((4 : Int32) * l1) + ((x_next ((5 : Int32) + l2).toNatClampNeg) - (x_next ((5 : Int32) + l2).toNatClampNeg) / (4 : Int32) * (4 : Int32))).toNatClampNeg))]) rfl (Nat.le_of_ble_eq_true rfl) h (fun rv w' hF => hF)
set_option maxRecDepth 20000 in
theorem x_RM_number_123 {X : am_X} {dd bc bs : Nat} (K : am_ok X b_RM_number R_RM 4 dd) {post : Option am_V → List am_C → Prop} (hr : am_rt X none post) {l1 l2 x_thrown x_nodes x_room x_states x_kinds x_rules x_numberings x_wholes x_gone x_steps x_old x_stuck x_answer x_badWhole x_same x_at : Int32} {x_numbering x_next x_other : Nat → Int32} {c1 c2 c3 c4 c5 c6 c7 c9 c10 c11 c12 c13 c14 c15 c18 : am_C}
    (h : AW X 59 [some (aR 0), some (aI l1), some (aI (l2 + 1)), none] [] [oC 5 [aI x_thrown, aI x_nodes, aI x_room, aI x_states, aI x_kinds, aI x_rules, aR 1, aR 2, aR 3, aR 4, aR 5, aR 6, aR 7, aR 8, aI x_numberings, aI x_wholes, aI x_gone, aI x_steps, aI x_old, aI x_stuck, aI x_answer, aI x_badWhole, aR 9, aR 10, aR 11, aR 12, aR 13, aR 14, aR 15, aR 16, aR 17, aR 18, aI x_same, aI x_at], c1, c2, c3, c4, c5, c6, c7, iC 96 x_numbering, c9, c10, c11, c12, c13, c14, c15, iC 12 x_next, iC 12 x_other, c18] bc bs) :
    AW X 123 [some (aR 0), some (aI l1), some (aI l2), none] [] [oC 5 [aI x_thrown, aI x_nodes, aI x_room, aI x_states, aI x_kinds, aI x_rules, aR 1, aR 2, aR 3, aR 4, aR 5, aR 6, aR 7, aR 8, aI x_numberings, aI x_wholes, aI x_gone, aI x_steps, aI x_old, aI x_stuck, aI x_answer, aI x_badWhole, aR 9, aR 10, aR 11, aR 12, aR 13, aR 14, aR 15, aR 16, aR 17, aR 18, aI x_same, aI x_at], c1, c2, c3, c4, c5, c6, c7, iC 96 x_numbering, c9, c10, c11, c12, c13, c14, c15, iC 12 x_next, iC 12 x_other, c18] bc bs := by
  refine aw_iinc K d_RM_number_123 rfl rfl (v := l2 + 1) rfl (by decide) (lv' := [some (aR 0), some (aI l1), some (aI (l2 + 1)), none]) rfl ?_
  refine aw_goto K d_RM_number_126 (n := 59) (by decide) ?_
  exact h
set_option maxRecDepth 20000 in
theorem x_RM_form_0 {X : am_X} {dd bc bs : Nat} (K : am_ok X b_RM_form R_RM 4 dd) {post : Option am_V → List am_C → Prop} (hr : am_rt X none post) {x_thrown x_nodes x_room x_states x_kinds x_rules x_numberings x_wholes x_gone x_steps x_old x_stuck x_answer x_badWhole x_same x_at : Int32} {x_next x_other x_least : Nat → Int32} {c1 c2 c3 c4 c5 c6 c7 c8 c9 c10 c11 c12 c13 c14 c15 : am_C}
    (h : AW X 7 [some (aR 0), some (aI 0), none, none] [] [oC 5 [aI x_thrown, aI x_nodes, aI x_room, aI x_states, aI x_kinds, aI x_rules, aR 1, aR 2, aR 3, aR 4, aR 5, aR 6, aR 7, aR 8, aI x_numberings, aI x_wholes, aI x_gone, aI x_steps, aI x_old, aI x_stuck, aI x_answer, aI x_badWhole, aR 9, aR 10, aR 11, aR 12, aR 13, aR 14, aR 15, aR 16, aR 17, aR 18, aI 0, aI x_at], c1, c2, c3, c4, c5, c6, c7, c8, c9, c10, c11, c12, c13, c14, c15, iC 12 x_next, iC 12 x_other, iC 12 x_least] bc bs) :
    AW X 0 [some (aR 0), none, none, none] [] [oC 5 [aI x_thrown, aI x_nodes, aI x_room, aI x_states, aI x_kinds, aI x_rules, aR 1, aR 2, aR 3, aR 4, aR 5, aR 6, aR 7, aR 8, aI x_numberings, aI x_wholes, aI x_gone, aI x_steps, aI x_old, aI x_stuck, aI x_answer, aI x_badWhole, aR 9, aR 10, aR 11, aR 12, aR 13, aR 14, aR 15, aR 16, aR 17, aR 18, aI x_same, aI x_at], c1, c2, c3, c4, c5, c6, c7, c8, c9, c10, c11, c12, c13, c14, c15, iC 12 x_next, iC 12 x_other, iC 12 x_least] bc bs := by
  refine aw_aload_n K d_RM_form_0 rfl rfl ?_
  refine aw_iconst K d_RM_form_1 rfl (v := 0) (by decide) ?_
  refine aw_putf K fp_RM_124 d_RM_form_2 rfl rfl (Nat.le_of_ble_eq_true rfl) (am_fit_i _) (w' := [oC 5 [aI x_thrown, aI x_nodes, aI x_room, aI x_states, aI x_kinds, aI x_rules, aR 1, aR 2, aR 3, aR 4, aR 5, aR 6, aR 7, aR 8, aI x_numberings, aI x_wholes, aI x_gone, aI x_steps, aI x_old, aI x_stuck, aI x_answer, aI x_badWhole, aR 9, aR 10, aR 11, aR 12, aR 13, aR 14, aR 15, aR 16, aR 17, aR 18, aI 0, aI x_at], c1, c2, c3, c4, c5, c6, c7, c8, c9, c10, c11, c12, c13, c14, c15, iC 12 x_next, iC 12 x_other, iC 12 x_least]) rfl ?_
  refine aw_iconst K d_RM_form_5 rfl (v := 0) (by decide) ?_
  refine aw_istore_n K d_RM_form_6 rfl (by decide) (lv' := [some (aR 0), some (aI 0), none, none]) rfl ?_
  exact h
set_option maxRecDepth 20000 in
theorem x_RM_form_7 {X : am_X} {dd bc bs : Nat} (K : am_ok X b_RM_form R_RM 4 dd) {post : Option am_V → List am_C → Prop} (hr : am_rt X none post) {sp_RM_number : am_S} {dd_RM_number : Nat} (c_RM_number : Con y_RM_number b_RM_number 4 none dd_RM_number 0 0 false sp_RM_number) (hdd_RM_number : dd_RM_number + 1 ≤ dd) {l1 x_thrown x_nodes x_room x_states x_kinds x_rules x_numberings x_wholes x_gone x_steps x_old x_stuck x_answer x_badWhole x_same x_at : Int32} {x_next x_other x_least : Nat → Int32} {c1 c2 c3 c4 c5 c6 c7 c8 c9 c10 c11 c12 c13 c14 c15 : am_C}
    (h : (x_numberings ≤ l1 → post none [oC 5 [aI x_thrown, aI x_nodes, aI x_room, aI x_states, aI x_kinds, aI x_rules, aR 1, aR 2, aR 3, aR 4, aR 5, aR 6, aR 7, aR 8, aI x_numberings, aI x_wholes, aI x_gone, aI x_steps, aI x_old, aI x_stuck, aI x_answer, aI x_badWhole, aR 9, aR 10, aR 11, aR 12, aR 13, aR 14, aR 15, aR 16, aR 17, aR 18, aI x_same, aI x_at], c1, c2, c3, c4, c5, c6, c7, c8, c9, c10, c11, c12, c13, c14, c15, iC 12 x_next, iC 12 x_other, iC 12 x_least]) ∧ (¬ x_numberings ≤ l1 → sp_RM_number [aR 0, aI l1] [oC 5 [aI x_thrown, aI x_nodes, aI x_room, aI x_states, aI x_kinds, aI x_rules, aR 1, aR 2, aR 3, aR 4, aR 5, aR 6, aR 7, aR 8, aI x_numberings, aI x_wholes, aI x_gone, aI x_steps, aI x_old, aI x_stuck, aI x_answer, aI x_badWhole, aR 9, aR 10, aR 11, aR 12, aR 13, aR 14, aR 15, aR 16, aR 17, aR 18, aI x_same, aI x_at], c1, c2, c3, c4, c5, c6, c7, c8, c9, c10, c11, c12, c13, c14, c15, iC 12 x_next, iC 12 x_other, iC 12 x_least] (fun rv w' => AW X 20 [some (aR 0), some (aI l1), none, none] (rv.toList ++ []) w' bc bs))) :
    AW X 7 [some (aR 0), some (aI l1), none, none] [] [oC 5 [aI x_thrown, aI x_nodes, aI x_room, aI x_states, aI x_kinds, aI x_rules, aR 1, aR 2, aR 3, aR 4, aR 5, aR 6, aR 7, aR 8, aI x_numberings, aI x_wholes, aI x_gone, aI x_steps, aI x_old, aI x_stuck, aI x_answer, aI x_badWhole, aR 9, aR 10, aR 11, aR 12, aR 13, aR 14, aR 15, aR 16, aR 17, aR 18, aI x_same, aI x_at], c1, c2, c3, c4, c5, c6, c7, c8, c9, c10, c11, c12, c13, c14, c15, iC 12 x_next, iC 12 x_other, iC 12 x_least] bc bs := by
  refine aw_iload_n K d_RM_form_7 rfl rfl ?_
  refine aw_aload_n K d_RM_form_8 rfl rfl ?_
  refine aw_getf K fd_RM_76 d_RM_form_9 rfl rfl rfl ?_
  refine aw_icmp_ge K d_RM_form_12 (t := 113) (by decide) rfl (fun q => ?_) (fun q => ?_)
  · replace h := h.1 q
    exact aw_vret K hr d_RM_form_113 h
  · replace h := h.2 q
    refine aw_aload_n K d_RM_form_15 rfl rfl ?_
    refine aw_iload_n K d_RM_form_16 rfl rfl ?_
    exact aw_callV K c_RM_number cb_RM_127 ci_RM_number cs_RM_number hdd_RM_number (k := 0) rfl rfl d_RM_form_17 rfl (av := [aI l1]) rfl (Nat.le_of_ble_eq_true rfl) h (fun rv w' hF => hF)
set_option maxRecDepth 20000 in
theorem x_RM_form_20 {X : am_X} {dd bc bs : Nat} (K : am_ok X b_RM_form R_RM 4 dd) {post : Option am_V → List am_C → Prop} (hr : am_rt X none post) {sp_RM_compare : am_S} {dd_RM_compare : Nat} (c_RM_compare : Con y_RM_compare b_RM_compare 4 (some .int) dd_RM_compare 0 0 false sp_RM_compare) (hdd_RM_compare : dd_RM_compare + 1 ≤ dd) {l1 x_thrown x_nodes x_room x_states x_kinds x_rules x_numberings x_wholes x_gone x_steps x_old x_stuck x_answer x_badWhole x_same x_at : Int32} {x_next x_other x_least : Nat → Int32} {c1 c2 c3 c4 c5 c6 c7 c8 c9 c10 c11 c12 c13 c14 c15 : am_C}
    (h : (¬ l1 = 0 → sp_RM_compare [aR 17, aR 18, aI ((5 : Int32) + (x_next (4 : Int32).toNatClampNeg))] [oC 5 [aI x_thrown, aI x_nodes, aI x_room, aI x_states, aI x_kinds, aI x_rules, aR 1, aR 2, aR 3, aR 4, aR 5, aR 6, aR 7, aR 8, aI x_numberings, aI x_wholes, aI x_gone, aI x_steps, aI x_old, aI x_stuck, aI x_answer, aI x_badWhole, aR 9, aR 10, aR 11, aR 12, aR 13, aR 14, aR 15, aR 16, aR 17, aR 18, aI x_same, aI x_at], c1, c2, c3, c4, c5, c6, c7, c8, c9, c10, c11, c12, c13, c14, c15, iC 12 x_next, iC 12 x_other, iC 12 x_least] (fun rv w' => AW X 47 [some (aR 0), some (aI l1), none, none] (rv.toList ++ []) w' bc bs)) ∧ (l1 = 0 → AW X 47 [some (aR 0), some (aI l1), none, none] [aI ((-1))] [oC 5 [aI x_thrown, aI x_nodes, aI x_room, aI x_states, aI x_kinds, aI x_rules, aR 1, aR 2, aR 3, aR 4, aR 5, aR 6, aR 7, aR 8, aI x_numberings, aI x_wholes, aI x_gone, aI x_steps, aI x_old, aI x_stuck, aI x_answer, aI x_badWhole, aR 9, aR 10, aR 11, aR 12, aR 13, aR 14, aR 15, aR 16, aR 17, aR 18, aI x_same, aI x_at], c1, c2, c3, c4, c5, c6, c7, c8, c9, c10, c11, c12, c13, c14, c15, iC 12 x_next, iC 12 x_other, iC 12 x_least] bc bs)) :
    AW X 20 [some (aR 0), some (aI l1), none, none] [] [oC 5 [aI x_thrown, aI x_nodes, aI x_room, aI x_states, aI x_kinds, aI x_rules, aR 1, aR 2, aR 3, aR 4, aR 5, aR 6, aR 7, aR 8, aI x_numberings, aI x_wholes, aI x_gone, aI x_steps, aI x_old, aI x_stuck, aI x_answer, aI x_badWhole, aR 9, aR 10, aR 11, aR 12, aR 13, aR 14, aR 15, aR 16, aR 17, aR 18, aI x_same, aI x_at], c1, c2, c3, c4, c5, c6, c7, c8, c9, c10, c11, c12, c13, c14, c15, iC 12 x_next, iC 12 x_other, iC 12 x_least] bc bs := by
  refine aw_iload_n K d_RM_form_20 rfl rfl ?_
  refine aw_if_ne K d_RM_form_21 (t := 28) (by decide) rfl (fun q => ?_) (fun q => ?_)
  · replace h := h.1 q
    refine aw_aload_n K d_RM_form_28 rfl rfl ?_
    refine aw_getf K fd_RM_64 d_RM_form_29 rfl rfl rfl ?_
    refine aw_aload_n K d_RM_form_32 rfl rfl ?_
    refine aw_getf K fd_RM_67 d_RM_form_33 rfl rfl rfl ?_
    refine aw_iconst K d_RM_form_36 rfl (v := 5) (by decide) ?_
    refine aw_aload_n K d_RM_form_37 rfl rfl ?_
    refine aw_getf K fd_RM_61 d_RM_form_38 rfl rfl rfl ?_
    refine aw_iconst K d_RM_form_41 rfl (v := 4) (by decide) ?_
    refine aw_iald K d_RM_form_42 rfl rfl (vp_in_nI (n := 4) (by decide) (by decide)) ?_
    refine aw_iadd K d_RM_form_43 rfl ?_
    exact aw_callS K c_RM_compare cb_RM_131 ct_RM_compare hdd_RM_compare d_RM_form_44 rfl (av := [aR 17, aR 18, aI ((5 : Int32) + (x_next (4 : Int32).toNatClampNeg))]) rfl (Nat.le_of_ble_eq_true rfl) h (fun rv w' hF => hF)
  · replace h := h.2 q
    refine aw_iconst K d_RM_form_24 rfl (v := (-1)) (by decide) ?_
    refine aw_goto K d_RM_form_25 (n := 47) (by decide) ?_
    exact h
set_option maxRecDepth 20000 in
theorem x_RM_form_47 {X : am_X} {dd bc bs : Nat} (K : am_ok X b_RM_form R_RM 4 dd) {post : Option am_V → List am_C → Prop} (hr : am_rt X none post) {l1 s0 x_thrown x_nodes x_room x_states x_kinds x_rules x_numberings x_wholes x_gone x_steps x_old x_stuck x_answer x_badWhole x_same x_at : Int32} {x_next x_other x_least : Nat → Int32} {c1 c2 c3 c4 c5 c6 c7 c8 c9 c10 c11 c12 c13 c14 c15 : am_C}
    (h : (0 ≤ s0 → AW X 57 [some (aR 0), some (aI l1), some (aI s0), none] [] [oC 5 [aI x_thrown, aI x_nodes, aI x_room, aI x_states, aI x_kinds, aI x_rules, aR 1, aR 2, aR 3, aR 4, aR 5, aR 6, aR 7, aR 8, aI x_numberings, aI x_wholes, aI x_gone, aI x_steps, aI x_old, aI x_stuck, aI x_answer, aI x_badWhole, aR 9, aR 10, aR 11, aR 12, aR 13, aR 14, aR 15, aR 16, aR 17, aR 18, aI x_same, aI x_at], c1, c2, c3, c4, c5, c6, c7, c8, c9, c10, c11, c12, c13, c14, c15, iC 12 x_next, iC 12 x_other, iC 12 x_least] bc bs) ∧ (¬ 0 ≤ s0 → AW X 57 [some (aR 0), some (aI l1), some (aI s0), none] [] [oC 5 [aI x_thrown, aI x_nodes, aI x_room, aI x_states, aI x_kinds, aI x_rules, aR 1, aR 2, aR 3, aR 4, aR 5, aR 6, aR 7, aR 8, aI x_numberings, aI x_wholes, aI x_gone, aI x_steps, aI x_old, aI x_stuck, aI x_answer, aI x_badWhole, aR 9, aR 10, aR 11, aR 12, aR 13, aR 14, aR 15, aR 16, aR 17, aR 18, aI 0, aI x_at], c1, c2, c3, c4, c5, c6, c7, c8, c9, c10, c11, c12, c13, c14, c15, iC 12 x_next, iC 12 x_other, iC 12 x_least] bc bs)) :
    AW X 47 [some (aR 0), some (aI l1), none, none] [aI s0] [oC 5 [aI x_thrown, aI x_nodes, aI x_room, aI x_states, aI x_kinds, aI x_rules, aR 1, aR 2, aR 3, aR 4, aR 5, aR 6, aR 7, aR 8, aI x_numberings, aI x_wholes, aI x_gone, aI x_steps, aI x_old, aI x_stuck, aI x_answer, aI x_badWhole, aR 9, aR 10, aR 11, aR 12, aR 13, aR 14, aR 15, aR 16, aR 17, aR 18, aI x_same, aI x_at], c1, c2, c3, c4, c5, c6, c7, c8, c9, c10, c11, c12, c13, c14, c15, iC 12 x_next, iC 12 x_other, iC 12 x_least] bc bs := by
  refine aw_istore_n K d_RM_form_47 rfl (by decide) (lv' := [some (aR 0), some (aI l1), some (aI s0), none]) rfl ?_
  refine aw_iload_n K d_RM_form_48 rfl rfl ?_
  refine aw_if_ge K d_RM_form_49 (t := 57) (by decide) rfl (fun q => ?_) (fun q => ?_)
  · replace h := h.1 q
    exact h
  · replace h := h.2 q
    refine aw_aload_n K d_RM_form_52 rfl rfl ?_
    refine aw_iconst K d_RM_form_53 rfl (v := 0) (by decide) ?_
    refine aw_putf K fp_RM_124 d_RM_form_54 rfl rfl (Nat.le_of_ble_eq_true rfl) (am_fit_i _) (w' := [oC 5 [aI x_thrown, aI x_nodes, aI x_room, aI x_states, aI x_kinds, aI x_rules, aR 1, aR 2, aR 3, aR 4, aR 5, aR 6, aR 7, aR 8, aI x_numberings, aI x_wholes, aI x_gone, aI x_steps, aI x_old, aI x_stuck, aI x_answer, aI x_badWhole, aR 9, aR 10, aR 11, aR 12, aR 13, aR 14, aR 15, aR 16, aR 17, aR 18, aI 0, aI x_at], c1, c2, c3, c4, c5, c6, c7, c8, c9, c10, c11, c12, c13, c14, c15, iC 12 x_next, iC 12 x_other, iC 12 x_least]) rfl ?_
    exact h
set_option maxRecDepth 20000 in
theorem x_RM_form_57 {X : am_X} {dd bc bs : Nat} (K : am_ok X b_RM_form R_RM 4 dd) {post : Option am_V → List am_C → Prop} (hr : am_rt X none post) {l1 l2 x_thrown x_nodes x_room x_states x_kinds x_rules x_numberings x_wholes x_gone x_steps x_old x_stuck x_answer x_badWhole x_same x_at : Int32} {x_next x_other x_least : Nat → Int32} {c1 c2 c3 c4 c5 c6 c7 c8 c9 c10 c11 c12 c13 c14 c15 : am_C}
    (h : (0 < l2 → AW X 73 [some (aR 0), some (aI l1), some (aI l2), some (aI 0)] [] [oC 5 [aI x_thrown, aI x_nodes, aI x_room, aI x_states, aI x_kinds, aI x_rules, aR 1, aR 2, aR 3, aR 4, aR 5, aR 6, aR 7, aR 8, aI x_numberings, aI x_wholes, aI x_gone, aI x_steps, aI x_old, aI x_stuck, aI x_answer, aI x_badWhole, aR 9, aR 10, aR 11, aR 12, aR 13, aR 14, aR 15, aR 16, aR 17, aR 18, aI x_same, aI x_at], c1, c2, c3, c4, c5, c6, c7, c8, c9, c10, c11, c12, c13, c14, c15, iC 12 x_next, iC 12 x_other, iC 12 x_least] bc bs) ∧ (¬ 0 < l2 → AW X 73 [some (aR 0), some (aI l1), some (aI l2), some (aI 0)] [] [oC 5 [aI x_thrown, aI x_nodes, aI x_room, aI x_states, aI x_kinds, aI x_rules, aR 1, aR 2, aR 3, aR 4, aR 5, aR 6, aR 7, aR 8, aI x_numberings, aI x_wholes, aI x_gone, aI x_steps, aI x_old, aI x_stuck, aI x_answer, aI x_badWhole, aR 9, aR 10, aR 11, aR 12, aR 13, aR 14, aR 15, aR 16, aR 17, aR 18, aI (x_same + (1 : Int32)), aI x_at], c1, c2, c3, c4, c5, c6, c7, c8, c9, c10, c11, c12, c13, c14, c15, iC 12 x_next, iC 12 x_other, iC 12 x_least] bc bs)) :
    AW X 57 [some (aR 0), some (aI l1), some (aI l2), none] [] [oC 5 [aI x_thrown, aI x_nodes, aI x_room, aI x_states, aI x_kinds, aI x_rules, aR 1, aR 2, aR 3, aR 4, aR 5, aR 6, aR 7, aR 8, aI x_numberings, aI x_wholes, aI x_gone, aI x_steps, aI x_old, aI x_stuck, aI x_answer, aI x_badWhole, aR 9, aR 10, aR 11, aR 12, aR 13, aR 14, aR 15, aR 16, aR 17, aR 18, aI x_same, aI x_at], c1, c2, c3, c4, c5, c6, c7, c8, c9, c10, c11, c12, c13, c14, c15, iC 12 x_next, iC 12 x_other, iC 12 x_least] bc bs := by
  refine aw_iload_n K d_RM_form_57 rfl rfl ?_
  refine aw_if_gt K d_RM_form_58 (t := 71) (by decide) rfl (fun q => ?_) (fun q => ?_)
  · replace h := h.1 q
    refine aw_iconst K d_RM_form_71 rfl (v := 0) (by decide) ?_
    refine aw_istore_n K d_RM_form_72 rfl (by decide) (lv' := [some (aR 0), some (aI l1), some (aI l2), some (aI 0)]) rfl ?_
    exact h
  · replace h := h.2 q
    refine aw_aload_n K d_RM_form_61 rfl rfl ?_
    refine aw_dup K d_RM_form_62 rfl (fun _ e => nomatch e) ?_
    refine aw_getf K fd_RM_124 d_RM_form_63 rfl rfl rfl ?_
    refine aw_iconst K d_RM_form_66 rfl (v := 1) (by decide) ?_
    refine aw_iadd K d_RM_form_67 rfl ?_
    refine aw_putf K fp_RM_124 d_RM_form_68 rfl rfl (Nat.le_of_ble_eq_true rfl) (am_fit_i _) (w' := [oC 5 [aI x_thrown, aI x_nodes, aI x_room, aI x_states, aI x_kinds, aI x_rules, aR 1, aR 2, aR 3, aR 4, aR 5, aR 6, aR 7, aR 8, aI x_numberings, aI x_wholes, aI x_gone, aI x_steps, aI x_old, aI x_stuck, aI x_answer, aI x_badWhole, aR 9, aR 10, aR 11, aR 12, aR 13, aR 14, aR 15, aR 16, aR 17, aR 18, aI (x_same + (1 : Int32)), aI x_at], c1, c2, c3, c4, c5, c6, c7, c8, c9, c10, c11, c12, c13, c14, c15, iC 12 x_next, iC 12 x_other, iC 12 x_least]) rfl ?_
    refine aw_iconst K d_RM_form_71 rfl (v := 0) (by decide) ?_
    refine aw_istore_n K d_RM_form_72 rfl (by decide) (lv' := [some (aR 0), some (aI l1), some (aI l2), some (aI 0)]) rfl ?_
    exact h
set_option maxRecDepth 20000 in
theorem x_RM_form_73 {X : am_X} {dd bc bs : Nat} (K : am_ok X b_RM_form R_RM 4 dd) {post : Option am_V → List am_C → Prop} (hr : am_rt X none post) {l1 l2 l3 x_thrown x_nodes x_room x_states x_kinds x_rules x_numberings x_wholes x_gone x_steps x_old x_stuck x_answer x_badWhole x_same x_at : Int32} {x_next x_other x_least : Nat → Int32} {c1 c2 c3 c4 c5 c6 c7 c8 c9 c10 c11 c12 c13 c14 c15 : am_C}
    (h : (((5 : Int32) + (x_next (4 : Int32).toNatClampNeg)) ≤ l3 → AW X 7 [some (aR 0), some (aI (l1 + 1)), none, none] [] [oC 5 [aI x_thrown, aI x_nodes, aI x_room, aI x_states, aI x_kinds, aI x_rules, aR 1, aR 2, aR 3, aR 4, aR 5, aR 6, aR 7, aR 8, aI x_numberings, aI x_wholes, aI x_gone, aI x_steps, aI x_old, aI x_stuck, aI x_answer, aI x_badWhole, aR 9, aR 10, aR 11, aR 12, aR 13, aR 14, aR 15, aR 16, aR 17, aR 18, aI x_same, aI x_at], c1, c2, c3, c4, c5, c6, c7, c8, c9, c10, c11, c12, c13, c14, c15, iC 12 x_next, iC 12 x_other, iC 12 x_least] bc bs) ∧ (¬ ((5 : Int32) + (x_next (4 : Int32).toNatClampNeg)) ≤ l3 → (0 ≤ l2 → AW X 7 [some (aR 0), some (aI (l1 + 1)), none, none] [] [oC 5 [aI x_thrown, aI x_nodes, aI x_room, aI x_states, aI x_kinds, aI x_rules, aR 1, aR 2, aR 3, aR 4, aR 5, aR 6, aR 7, aR 8, aI x_numberings, aI x_wholes, aI x_gone, aI x_steps, aI x_old, aI x_stuck, aI x_answer, aI x_badWhole, aR 9, aR 10, aR 11, aR 12, aR 13, aR 14, aR 15, aR 16, aR 17, aR 18, aI x_same, aI x_at], c1, c2, c3, c4, c5, c6, c7, c8, c9, c10, c11, c12, c13, c14, c15, iC 12 x_next, iC 12 x_other, iC 12 x_least] bc bs) ∧ (¬ 0 ≤ l2 → vp_in l3 12 ∧ vp_in l3 12 ∧ AW X 73 [some (aR 0), some (aI l1), some (aI l2), some (aI (l3 + 1))] [] [oC 5 [aI x_thrown, aI x_nodes, aI x_room, aI x_states, aI x_kinds, aI x_rules, aR 1, aR 2, aR 3, aR 4, aR 5, aR 6, aR 7, aR 8, aI x_numberings, aI x_wholes, aI x_gone, aI x_steps, aI x_old, aI x_stuck, aI x_answer, aI x_badWhole, aR 9, aR 10, aR 11, aR 12, aR 13, aR 14, aR 15, aR 16, aR 17, aR 18, aI x_same, aI x_at], c1, c2, c3, c4, c5, c6, c7, c8, c9, c10, c11, c12, c13, c14, c15, iC 12 x_next, iC 12 x_other, iC 12 (upd x_least l3.toNatClampNeg (x_other l3.toNatClampNeg))] bc bs))) :
    AW X 73 [some (aR 0), some (aI l1), some (aI l2), some (aI l3)] [] [oC 5 [aI x_thrown, aI x_nodes, aI x_room, aI x_states, aI x_kinds, aI x_rules, aR 1, aR 2, aR 3, aR 4, aR 5, aR 6, aR 7, aR 8, aI x_numberings, aI x_wholes, aI x_gone, aI x_steps, aI x_old, aI x_stuck, aI x_answer, aI x_badWhole, aR 9, aR 10, aR 11, aR 12, aR 13, aR 14, aR 15, aR 16, aR 17, aR 18, aI x_same, aI x_at], c1, c2, c3, c4, c5, c6, c7, c8, c9, c10, c11, c12, c13, c14, c15, iC 12 x_next, iC 12 x_other, iC 12 x_least] bc bs := by
  refine aw_iload_n K d_RM_form_73 rfl rfl ?_
  refine aw_iconst K d_RM_form_74 rfl (v := 5) (by decide) ?_
  refine aw_aload_n K d_RM_form_75 rfl rfl ?_
  refine aw_getf K fd_RM_61 d_RM_form_76 rfl rfl rfl ?_
  refine aw_iconst K d_RM_form_79 rfl (v := 4) (by decide) ?_
  refine aw_iald K d_RM_form_80 rfl rfl (vp_in_nI (n := 4) (by decide) (by decide)) ?_
  refine aw_iadd K d_RM_form_81 rfl ?_
  refine aw_icmp_ge K d_RM_form_82 (t := 107) (by decide) rfl (fun q => ?_) (fun q => ?_)
  · replace h := h.1 q
    refine aw_iinc K d_RM_form_107 rfl rfl (v := l1 + 1) rfl (by decide) (lv' := [some (aR 0), some (aI (l1 + 1)), some (aI l2), some (aI l3)]) rfl ?_
    refine aw_goto K d_RM_form_110 (n := 7) (by decide) ?_
    refine aw_less [2, 3] rfl ?_
    exact h
  · replace h := h.2 q
    refine aw_iload_n K d_RM_form_85 rfl rfl ?_
    refine aw_if_ge K d_RM_form_86 (t := 107) (by decide) rfl (fun q => ?_) (fun q => ?_)
    · replace h := h.1 q
      refine aw_iinc K d_RM_form_107 rfl rfl (v := l1 + 1) rfl (by decide) (lv' := [some (aR 0), some (aI (l1 + 1)), some (aI l2), some (aI l3)]) rfl ?_
      refine aw_goto K d_RM_form_110 (n := 7) (by decide) ?_
      refine aw_less [2, 3] rfl ?_
      exact h
    · replace h := h.2 q
      refine aw_aload_n K d_RM_form_89 rfl rfl ?_
      refine aw_getf K fd_RM_67 d_RM_form_90 rfl rfl rfl ?_
      refine aw_iload_n K d_RM_form_93 rfl rfl ?_
      refine aw_aload_n K d_RM_form_94 rfl rfl ?_
      refine aw_getf K fd_RM_64 d_RM_form_95 rfl rfl rfl ?_
      refine aw_iload_n K d_RM_form_98 rfl rfl ?_
      refine aw_iald K d_RM_form_99 rfl rfl h.1 ?_
      replace h := h.2
      refine aw_iast K d_RM_form_100 rfl rfl h.1 (w' := [oC 5 [aI x_thrown, aI x_nodes, aI x_room, aI x_states, aI x_kinds, aI x_rules, aR 1, aR 2, aR 3, aR 4, aR 5, aR 6, aR 7, aR 8, aI x_numberings, aI x_wholes, aI x_gone, aI x_steps, aI x_old, aI x_stuck, aI x_answer, aI x_badWhole, aR 9, aR 10, aR 11, aR 12, aR 13, aR 14, aR 15, aR 16, aR 17, aR 18, aI x_same, aI x_at], c1, c2, c3, c4, c5, c6, c7, c8, c9, c10, c11, c12, c13, c14, c15, iC 12 x_next, iC 12 x_other, iC 12 (upd x_least l3.toNatClampNeg (x_other l3.toNatClampNeg))]) rfl ?_
      replace h := h.2
      refine aw_iinc K d_RM_form_101 rfl rfl (v := l3 + 1) rfl (by decide) (lv' := [some (aR 0), some (aI l1), some (aI l2), some (aI (l3 + 1))]) rfl ?_
      refine aw_goto K d_RM_form_104 (n := 73) (by decide) ?_
      exact h
set_option maxRecDepth 20000 in
theorem x_RM_compareRow_0 {X : am_X} {dd bc bs : Nat} (K : am_ok X b_RM_compareRow R_RM 3 dd) {post : Option am_V → List am_C → Prop} (hr : am_rt X (some .int) post) {l1 x_thrown x_nodes x_room x_states x_kinds x_rules x_numberings x_wholes x_gone x_steps x_old x_stuck x_answer x_badWhole x_same x_at : Int32} {x_rows x_least : Nat → Int32} {c1 c2 c3 c4 c5 c6 c7 c8 c10 c11 c12 c13 c14 c15 c16 c17 : am_C}
    (h : AW X 2 [some (aR 0), some (aI l1), some (aI 0)] [] [oC 5 [aI x_thrown, aI x_nodes, aI x_room, aI x_states, aI x_kinds, aI x_rules, aR 1, aR 2, aR 3, aR 4, aR 5, aR 6, aR 7, aR 8, aI x_numberings, aI x_wholes, aI x_gone, aI x_steps, aI x_old, aI x_stuck, aI x_answer, aI x_badWhole, aR 9, aR 10, aR 11, aR 12, aR 13, aR 14, aR 15, aR 16, aR 17, aR 18, aI x_same, aI x_at], c1, c2, c3, c4, c5, c6, c7, c8, iC 98304 x_rows, c10, c11, c12, c13, c14, c15, c16, c17, iC 12 x_least] bc bs) :
    AW X 0 [some (aR 0), some (aI l1), none] [] [oC 5 [aI x_thrown, aI x_nodes, aI x_room, aI x_states, aI x_kinds, aI x_rules, aR 1, aR 2, aR 3, aR 4, aR 5, aR 6, aR 7, aR 8, aI x_numberings, aI x_wholes, aI x_gone, aI x_steps, aI x_old, aI x_stuck, aI x_answer, aI x_badWhole, aR 9, aR 10, aR 11, aR 12, aR 13, aR 14, aR 15, aR 16, aR 17, aR 18, aI x_same, aI x_at], c1, c2, c3, c4, c5, c6, c7, c8, iC 98304 x_rows, c10, c11, c12, c13, c14, c15, c16, c17, iC 12 x_least] bc bs := by
  refine aw_iconst K d_RM_compareRow_0 rfl (v := 0) (by decide) ?_
  refine aw_istore_n K d_RM_compareRow_1 rfl (by decide) (lv' := [some (aR 0), some (aI l1), some (aI 0)]) rfl ?_
  exact h
set_option maxRecDepth 20000 in
theorem x_RM_compareRow_2 {X : am_X} {dd bc bs : Nat} (K : am_ok X b_RM_compareRow R_RM 3 dd) {post : Option am_V → List am_C → Prop} (hr : am_rt X (some .int) post) {l1 l2 x_thrown x_nodes x_room x_states x_kinds x_rules x_numberings x_wholes x_gone x_steps x_old x_stuck x_answer x_badWhole x_same x_at : Int32} {x_rows x_least : Nat → Int32} {c1 c2 c3 c4 c5 c6 c7 c8 c10 c11 c12 c13 c14 c15 c16 c17 : am_C}
    (h : (5 ≤ l2 → AW X 61 [some (aR 0), some (aI l1), some (aI 0)] [] [oC 5 [aI x_thrown, aI x_nodes, aI x_room, aI x_states, aI x_kinds, aI x_rules, aR 1, aR 2, aR 3, aR 4, aR 5, aR 6, aR 7, aR 8, aI x_numberings, aI x_wholes, aI x_gone, aI x_steps, aI x_old, aI x_stuck, aI x_answer, aI x_badWhole, aR 9, aR 10, aR 11, aR 12, aR 13, aR 14, aR 15, aR 16, aR 17, aR 18, aI x_same, aI x_at], c1, c2, c3, c4, c5, c6, c7, c8, iC 98304 x_rows, c10, c11, c12, c13, c14, c15, c16, c17, iC 12 x_least] bc bs) ∧ (¬ 5 ≤ l2 → vp_in (((12 : Int32) * l1) + l2) 98304 ∧ vp_in l2 12 ∧ ((x_rows (((12 : Int32) * l1) + l2).toNatClampNeg) = (x_least l2.toNatClampNeg) → AW X 2 [some (aR 0), some (aI l1), some (aI (l2 + 1))] [] [oC 5 [aI x_thrown, aI x_nodes, aI x_room, aI x_states, aI x_kinds, aI x_rules, aR 1, aR 2, aR 3, aR 4, aR 5, aR 6, aR 7, aR 8, aI x_numberings, aI x_wholes, aI x_gone, aI x_steps, aI x_old, aI x_stuck, aI x_answer, aI x_badWhole, aR 9, aR 10, aR 11, aR 12, aR 13, aR 14, aR 15, aR 16, aR 17, aR 18, aI x_same, aI x_at], c1, c2, c3, c4, c5, c6, c7, c8, iC 98304 x_rows, c10, c11, c12, c13, c14, c15, c16, c17, iC 12 x_least] bc bs) ∧ (¬ (x_rows (((12 : Int32) * l1) + l2).toNatClampNeg) = (x_least l2.toNatClampNeg) → vp_in (((12 : Int32) * l1) + l2) 98304 ∧ vp_in l2 12 ∧ ((x_least l2.toNatClampNeg) ≤ (x_rows (((12 : Int32) * l1) + l2).toNatClampNeg) → post (some (aI 1)) [oC 5 [aI x_thrown, aI x_nodes, aI x_room, aI x_states, aI x_kinds, aI x_rules, aR 1, aR 2, aR 3, aR 4, aR 5, aR 6, aR 7, aR 8, aI x_numberings, aI x_wholes, aI x_gone, aI x_steps, aI x_old, aI x_stuck, aI x_answer, aI x_badWhole, aR 9, aR 10, aR 11, aR 12, aR 13, aR 14, aR 15, aR 16, aR 17, aR 18, aI x_same, aI x_at], c1, c2, c3, c4, c5, c6, c7, c8, iC 98304 x_rows, c10, c11, c12, c13, c14, c15, c16, c17, iC 12 x_least]) ∧ (¬ (x_least l2.toNatClampNeg) ≤ (x_rows (((12 : Int32) * l1) + l2).toNatClampNeg) → post (some (aI ((-1)))) [oC 5 [aI x_thrown, aI x_nodes, aI x_room, aI x_states, aI x_kinds, aI x_rules, aR 1, aR 2, aR 3, aR 4, aR 5, aR 6, aR 7, aR 8, aI x_numberings, aI x_wholes, aI x_gone, aI x_steps, aI x_old, aI x_stuck, aI x_answer, aI x_badWhole, aR 9, aR 10, aR 11, aR 12, aR 13, aR 14, aR 15, aR 16, aR 17, aR 18, aI x_same, aI x_at], c1, c2, c3, c4, c5, c6, c7, c8, iC 98304 x_rows, c10, c11, c12, c13, c14, c15, c16, c17, iC 12 x_least])))) :
    AW X 2 [some (aR 0), some (aI l1), some (aI l2)] [] [oC 5 [aI x_thrown, aI x_nodes, aI x_room, aI x_states, aI x_kinds, aI x_rules, aR 1, aR 2, aR 3, aR 4, aR 5, aR 6, aR 7, aR 8, aI x_numberings, aI x_wholes, aI x_gone, aI x_steps, aI x_old, aI x_stuck, aI x_answer, aI x_badWhole, aR 9, aR 10, aR 11, aR 12, aR 13, aR 14, aR 15, aR 16, aR 17, aR 18, aI x_same, aI x_at], c1, c2, c3, c4, c5, c6, c7, c8, iC 98304 x_rows, c10, c11, c12, c13, c14, c15, c16, c17, iC 12 x_least] bc bs := by
  refine aw_iload_n K d_RM_compareRow_2 rfl rfl ?_
  refine aw_iconst K d_RM_compareRow_3 rfl (v := 5) (by decide) ?_
  refine aw_icmp_ge K d_RM_compareRow_4 (t := 59) (by decide) rfl (fun q => ?_) (fun q => ?_)
  · replace h := h.1 q
    refine aw_iconst K d_RM_compareRow_59 rfl (v := 0) (by decide) ?_
    refine aw_istore_n K d_RM_compareRow_60 rfl (by decide) (lv' := [some (aR 0), some (aI l1), some (aI 0)]) rfl ?_
    exact h
  · replace h := h.2 q
    refine aw_aload_n K d_RM_compareRow_7 rfl rfl ?_
    refine aw_getf K fd_RM_40 d_RM_compareRow_8 rfl rfl rfl ?_
    refine aw_bipush K d_RM_compareRow_11 rfl (v := 12) (by decide) ?_
    refine aw_iload_n K d_RM_compareRow_13 rfl rfl ?_
    refine aw_imul K d_RM_compareRow_14 rfl ?_
    refine aw_iload_n K d_RM_compareRow_15 rfl rfl ?_
    refine aw_iadd K d_RM_compareRow_16 rfl ?_
    refine aw_iald K d_RM_compareRow_17 rfl rfl h.1 ?_
    replace h := h.2
    refine aw_aload_n K d_RM_compareRow_18 rfl rfl ?_
    refine aw_getf K fd_RM_67 d_RM_compareRow_19 rfl rfl rfl ?_
    refine aw_iload_n K d_RM_compareRow_22 rfl rfl ?_
    refine aw_iald K d_RM_compareRow_23 rfl rfl h.1 ?_
    replace h := h.2
    refine aw_icmp_eq K d_RM_compareRow_24 (t := 53) (by decide) rfl (fun q => ?_) (fun q => ?_)
    · replace h := h.1 q
      refine aw_iinc K d_RM_compareRow_53 rfl rfl (v := l2 + 1) rfl (by decide) (lv' := [some (aR 0), some (aI l1), some (aI (l2 + 1))]) rfl ?_
      refine aw_goto K d_RM_compareRow_56 (n := 2) (by decide) ?_
      exact h
    · replace h := h.2 q
      refine aw_aload_n K d_RM_compareRow_27 rfl rfl ?_
      refine aw_getf K fd_RM_40 d_RM_compareRow_28 rfl rfl rfl ?_
      refine aw_bipush K d_RM_compareRow_31 rfl (v := 12) (by decide) ?_
      refine aw_iload_n K d_RM_compareRow_33 rfl rfl ?_
      refine aw_imul K d_RM_compareRow_34 rfl ?_
      refine aw_iload_n K d_RM_compareRow_35 rfl rfl ?_
      refine aw_iadd K d_RM_compareRow_36 rfl ?_
      refine aw_iald K d_RM_compareRow_37 rfl rfl h.1 ?_
      replace h := h.2
      refine aw_aload_n K d_RM_compareRow_38 rfl rfl ?_
      refine aw_getf K fd_RM_67 d_RM_compareRow_39 rfl rfl rfl ?_
      refine aw_iload_n K d_RM_compareRow_42 rfl rfl ?_
      refine aw_iald K d_RM_compareRow_43 rfl rfl h.1 ?_
      replace h := h.2
      refine aw_icmp_ge K d_RM_compareRow_44 (t := 51) (by decide) rfl (fun q => ?_) (fun q => ?_)
      · replace h := h.1 q
        refine aw_iconst K d_RM_compareRow_51 rfl (v := 1) (by decide) ?_
        exact aw_iret K hr d_RM_compareRow_52 h
      · replace h := h.2 q
        refine aw_iconst K d_RM_compareRow_47 rfl (v := (-1)) (by decide) ?_
        refine aw_goto K d_RM_compareRow_48 (n := 52) (by decide) ?_
        exact aw_iret K hr d_RM_compareRow_52 h
set_option maxRecDepth 20000 in
theorem x_RM_compareRow_61 {X : am_X} {dd bc bs : Nat} (K : am_ok X b_RM_compareRow R_RM 3 dd) {post : Option am_V → List am_C → Prop} (hr : am_rt X (some .int) post) {l1 l2 x_thrown x_nodes x_room x_states x_kinds x_rules x_numberings x_wholes x_gone x_steps x_old x_stuck x_answer x_badWhole x_same x_at : Int32} {x_rows x_least : Nat → Int32} {c1 c2 c3 c4 c5 c6 c7 c8 c10 c11 c12 c13 c14 c15 c16 c17 : am_C}
    (h : ((x_least (4 : Int32).toNatClampNeg) ≤ l2 → post (some (aI 0)) [oC 5 [aI x_thrown, aI x_nodes, aI x_room, aI x_states, aI x_kinds, aI x_rules, aR 1, aR 2, aR 3, aR 4, aR 5, aR 6, aR 7, aR 8, aI x_numberings, aI x_wholes, aI x_gone, aI x_steps, aI x_old, aI x_stuck, aI x_answer, aI x_badWhole, aR 9, aR 10, aR 11, aR 12, aR 13, aR 14, aR 15, aR 16, aR 17, aR 18, aI x_same, aI x_at], c1, c2, c3, c4, c5, c6, c7, c8, iC 98304 x_rows, c10, c11, c12, c13, c14, c15, c16, c17, iC 12 x_least]) ∧ (¬ (x_least (4 : Int32).toNatClampNeg) ≤ l2 → vp_in ((((12 : Int32) * l1) + (5 : Int32)) + l2) 98304 ∧ vp_in ((5 : Int32) + l2) 12 ∧ ((x_rows ((((12 : Int32) * l1) + (5 : Int32)) + l2).toNatClampNeg) = (x_least ((5 : Int32) + l2).toNatClampNeg) → AW X 61 [some (aR 0), some (aI l1), some (aI (l2 + 1))] [] [oC 5 [aI x_thrown, aI x_nodes, aI x_room, aI x_states, aI x_kinds, aI x_rules, aR 1, aR 2, aR 3, aR 4, aR 5, aR 6, aR 7, aR 8, aI x_numberings, aI x_wholes, aI x_gone, aI x_steps, aI x_old, aI x_stuck, aI x_answer, aI x_badWhole, aR 9, aR 10, aR 11, aR 12, aR 13, aR 14, aR 15, aR 16, aR 17, aR 18, aI x_same, aI x_at], c1, c2, c3, c4, c5, c6, c7, c8, iC 98304 x_rows, c10, c11, c12, c13, c14, c15, c16, c17, iC 12 x_least] bc bs) ∧ (¬ (x_rows ((((12 : Int32) * l1) + (5 : Int32)) + l2).toNatClampNeg) = (x_least ((5 : Int32) + l2).toNatClampNeg) → vp_in ((((12 : Int32) * l1) + (5 : Int32)) + l2) 98304 ∧ vp_in ((5 : Int32) + l2) 12 ∧ ((x_least ((5 : Int32) + l2).toNatClampNeg) ≤ (x_rows ((((12 : Int32) * l1) + (5 : Int32)) + l2).toNatClampNeg) → post (some (aI 1)) [oC 5 [aI x_thrown, aI x_nodes, aI x_room, aI x_states, aI x_kinds, aI x_rules, aR 1, aR 2, aR 3, aR 4, aR 5, aR 6, aR 7, aR 8, aI x_numberings, aI x_wholes, aI x_gone, aI x_steps, aI x_old, aI x_stuck, aI x_answer, aI x_badWhole, aR 9, aR 10, aR 11, aR 12, aR 13, aR 14, aR 15, aR 16, aR 17, aR 18, aI x_same, aI x_at], c1, c2, c3, c4, c5, c6, c7, c8, iC 98304 x_rows, c10, c11, c12, c13, c14, c15, c16, c17, iC 12 x_least]) ∧ (¬ (x_least ((5 : Int32) + l2).toNatClampNeg) ≤ (x_rows ((((12 : Int32) * l1) + (5 : Int32)) + l2).toNatClampNeg) → post (some (aI ((-1)))) [oC 5 [aI x_thrown, aI x_nodes, aI x_room, aI x_states, aI x_kinds, aI x_rules, aR 1, aR 2, aR 3, aR 4, aR 5, aR 6, aR 7, aR 8, aI x_numberings, aI x_wholes, aI x_gone, aI x_steps, aI x_old, aI x_stuck, aI x_answer, aI x_badWhole, aR 9, aR 10, aR 11, aR 12, aR 13, aR 14, aR 15, aR 16, aR 17, aR 18, aI x_same, aI x_at], c1, c2, c3, c4, c5, c6, c7, c8, iC 98304 x_rows, c10, c11, c12, c13, c14, c15, c16, c17, iC 12 x_least])))) :
    AW X 61 [some (aR 0), some (aI l1), some (aI l2)] [] [oC 5 [aI x_thrown, aI x_nodes, aI x_room, aI x_states, aI x_kinds, aI x_rules, aR 1, aR 2, aR 3, aR 4, aR 5, aR 6, aR 7, aR 8, aI x_numberings, aI x_wholes, aI x_gone, aI x_steps, aI x_old, aI x_stuck, aI x_answer, aI x_badWhole, aR 9, aR 10, aR 11, aR 12, aR 13, aR 14, aR 15, aR 16, aR 17, aR 18, aI x_same, aI x_at], c1, c2, c3, c4, c5, c6, c7, c8, iC 98304 x_rows, c10, c11, c12, c13, c14, c15, c16, c17, iC 12 x_least] bc bs := by
  refine aw_iload_n K d_RM_compareRow_61 rfl rfl ?_
  refine aw_aload_n K d_RM_compareRow_62 rfl rfl ?_
  refine aw_getf K fd_RM_67 d_RM_compareRow_63 rfl rfl rfl ?_
  refine aw_iconst K d_RM_compareRow_66 rfl (v := 4) (by decide) ?_
  refine aw_iald K d_RM_compareRow_67 rfl rfl (vp_in_nI (n := 4) (by decide) (by decide)) ?_
  refine aw_icmp_ge K d_RM_compareRow_68 (t := 131) (by decide) rfl (fun q => ?_) (fun q => ?_)
  · replace h := h.1 q
    refine aw_iconst K d_RM_compareRow_131 rfl (v := 0) (by decide) ?_
    exact aw_iret K hr d_RM_compareRow_132 h
  · replace h := h.2 q
    refine aw_aload_n K d_RM_compareRow_71 rfl rfl ?_
    refine aw_getf K fd_RM_40 d_RM_compareRow_72 rfl rfl rfl ?_
    refine aw_bipush K d_RM_compareRow_75 rfl (v := 12) (by decide) ?_
    refine aw_iload_n K d_RM_compareRow_77 rfl rfl ?_
    refine aw_imul K d_RM_compareRow_78 rfl ?_
    refine aw_iconst K d_RM_compareRow_79 rfl (v := 5) (by decide) ?_
    refine aw_iadd K d_RM_compareRow_80 rfl ?_
    refine aw_iload_n K d_RM_compareRow_81 rfl rfl ?_
    refine aw_iadd K d_RM_compareRow_82 rfl ?_
    refine aw_iald K d_RM_compareRow_83 rfl rfl h.1 ?_
    replace h := h.2
    refine aw_aload_n K d_RM_compareRow_84 rfl rfl ?_
    refine aw_getf K fd_RM_67 d_RM_compareRow_85 rfl rfl rfl ?_
    refine aw_iconst K d_RM_compareRow_88 rfl (v := 5) (by decide) ?_
    refine aw_iload_n K d_RM_compareRow_89 rfl rfl ?_
    refine aw_iadd K d_RM_compareRow_90 rfl ?_
    refine aw_iald K d_RM_compareRow_91 rfl rfl h.1 ?_
    replace h := h.2
    refine aw_icmp_eq K d_RM_compareRow_92 (t := 125) (by decide) rfl (fun q => ?_) (fun q => ?_)
    · replace h := h.1 q
      refine aw_iinc K d_RM_compareRow_125 rfl rfl (v := l2 + 1) rfl (by decide) (lv' := [some (aR 0), some (aI l1), some (aI (l2 + 1))]) rfl ?_
      refine aw_goto K d_RM_compareRow_128 (n := 61) (by decide) ?_
      exact h
    · replace h := h.2 q
      refine aw_aload_n K d_RM_compareRow_95 rfl rfl ?_
      refine aw_getf K fd_RM_40 d_RM_compareRow_96 rfl rfl rfl ?_
      refine aw_bipush K d_RM_compareRow_99 rfl (v := 12) (by decide) ?_
      refine aw_iload_n K d_RM_compareRow_101 rfl rfl ?_
      refine aw_imul K d_RM_compareRow_102 rfl ?_
      refine aw_iconst K d_RM_compareRow_103 rfl (v := 5) (by decide) ?_
      refine aw_iadd K d_RM_compareRow_104 rfl ?_
      refine aw_iload_n K d_RM_compareRow_105 rfl rfl ?_
      refine aw_iadd K d_RM_compareRow_106 rfl ?_
      refine aw_iald K d_RM_compareRow_107 rfl rfl h.1 ?_
      replace h := h.2
      refine aw_aload_n K d_RM_compareRow_108 rfl rfl ?_
      refine aw_getf K fd_RM_67 d_RM_compareRow_109 rfl rfl rfl ?_
      refine aw_iconst K d_RM_compareRow_112 rfl (v := 5) (by decide) ?_
      refine aw_iload_n K d_RM_compareRow_113 rfl rfl ?_
      refine aw_iadd K d_RM_compareRow_114 rfl ?_
      refine aw_iald K d_RM_compareRow_115 rfl rfl h.1 ?_
      replace h := h.2
      refine aw_icmp_ge K d_RM_compareRow_116 (t := 123) (by decide) rfl (fun q => ?_) (fun q => ?_)
      · replace h := h.1 q
        refine aw_iconst K d_RM_compareRow_123 rfl (v := 1) (by decide) ?_
        exact aw_iret K hr d_RM_compareRow_124 h
      · replace h := h.2 q
        refine aw_iconst K d_RM_compareRow_119 rfl (v := (-1)) (by decide) ?_
        refine aw_goto K d_RM_compareRow_120 (n := 124) (by decide) ?_
        exact aw_iret K hr d_RM_compareRow_124 h

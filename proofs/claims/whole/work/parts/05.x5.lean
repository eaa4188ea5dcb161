set_option maxRecDepth 20000 in
theorem x_RM_isThere_0 {X : am_X} {dd bc bs : Nat} (K : am_ok X b_RM_isThere R_RM 4 dd) {post : Option am_V → List am_C → Prop} (hr : am_rt X (some .boolean) post) {x_thrown x_nodes x_room x_states x_kinds x_rules x_numberings x_wholes x_gone x_steps x_old x_stuck x_answer x_badWhole x_same x_at : Int32} {x_order : Nat → Int32} {c1 c2 c3 c4 c5 c6 c7 c8 c9 c11 c12 c13 c14 c15 c16 c17 c18 : am_C}
    (h : AW X 7 [some (aR 0), some (aI 0), some (aI x_wholes), none] [] [oC 5 [aI x_thrown, aI x_nodes, aI x_room, aI x_states, aI x_kinds, aI x_rules, aR 1, aR 2, aR 3, aR 4, aR 5, aR 6, aR 7, aR 8, aI x_numberings, aI x_wholes, aI x_gone, aI x_steps, aI x_old, aI x_stuck, aI x_answer, aI x_badWhole, aR 9, aR 10, aR 11, aR 12, aR 13, aR 14, aR 15, aR 16, aR 17, aR 18, aI x_same, aI x_at], c1, c2, c3, c4, c5, c6, c7, c8, c9, iC 8192 x_order, c11, c12, c13, c14, c15, c16, c17, c18] bc bs) :
    AW X 0 [some (aR 0), none, none, none] [] [oC 5 [aI x_thrown, aI x_nodes, aI x_room, aI x_states, aI x_kinds, aI x_rules, aR 1, aR 2, aR 3, aR 4, aR 5, aR 6, aR 7, aR 8, aI x_numberings, aI x_wholes, aI x_gone, aI x_steps, aI x_old, aI x_stuck, aI x_answer, aI x_badWhole, aR 9, aR 10, aR 11, aR 12, aR 13, aR 14, aR 15, aR 16, aR 17, aR 18, aI x_same, aI x_at], c1, c2, c3, c4, c5, c6, c7, c8, c9, iC 8192 x_order, c11, c12, c13, c14, c15, c16, c17, c18] bc bs := by
  refine aw_iconst K d_RM_isThere_0 rfl (v := 0) (by decide) ?_
  refine aw_istore_n K d_RM_isThere_1 rfl (by decide) (lv' := [some (aR 0), some (aI 0), none, none]) rfl ?_
  refine aw_aload_n K d_RM_isThere_2 rfl rfl ?_
  refine aw_getf K fd_RM_82 d_RM_isThere_3 rfl rfl rfl ?_
  refine aw_istore_n K d_RM_isThere_6 rfl (by decide) (lv' := [some (aR 0), some (aI 0), some (aI x_wholes), none]) rfl ?_
  exact h
set_option maxRecDepth 20000 in
theorem x_RM_isThere_7 {X : am_X} {dd bc bs : Nat} (K : am_ok X b_RM_isThere R_RM 4 dd) {post : Option am_V → List am_C → Prop} (hr : am_rt X (some .boolean) post) {sp_RM_compareRow : am_S} {dd_RM_compareRow : Nat} (c_RM_compareRow : Con y_RM_compareRow b_RM_compareRow 3 (some .int) dd_RM_compareRow 0 0 false sp_RM_compareRow) (hdd_RM_compareRow : dd_RM_compareRow + 1 ≤ dd) {l1 l2 x_thrown x_nodes x_room x_states x_kinds x_rules x_numberings x_wholes x_gone x_steps x_old x_stuck x_answer x_badWhole x_same x_at : Int32} {x_order : Nat → Int32} {c1 c2 c3 c4 c5 c6 c7 c8 c9 c11 c12 c13 c14 c15 c16 c17 c18 : am_C}
    (h : (l2 ≤ l1 → (x_wholes ≤ l1 → post (some (aI 0)) [oC 5 [aI x_thrown, aI x_nodes, aI x_room, aI x_states, aI x_kinds, aI x_rules, aR 1, aR 2, aR 3, aR 4, aR 5, aR 6, aR 7, aR 8, aI x_numberings, aI x_wholes, aI x_gone, aI x_steps, aI x_old, aI x_stuck, aI x_answer, aI x_badWhole, aR 9, aR 10, aR 11, aR 12, aR 13, aR 14, aR 15, aR 16, aR 17, aR 18, aI x_same, aI l1], c1, c2, c3, c4, c5, c6, c7, c8, c9, iC 8192 x_order, c11, c12, c13, c14, c15, c16, c17, c18]) ∧ (¬ x_wholes ≤ l1 → vp_in l1 8192 ∧ sp_RM_compareRow [aR 0, aI (x_order l1.toNatClampNeg)] [oC 5 [aI x_thrown, aI x_nodes, aI x_room, aI x_states, aI x_kinds, aI x_rules, aR 1, aR 2, aR 3, aR 4, aR 5, aR 6, aR 7, aR 8, aI x_numberings, aI x_wholes, aI x_gone, aI x_steps, aI x_old, aI x_stuck, aI x_answer, aI x_badWhole, aR 9, aR 10, aR 11, aR 12, aR 13, aR 14, aR 15, aR 16, aR 17, aR 18, aI x_same, aI l1], c1, c2, c3, c4, c5, c6, c7, c8, c9, iC 8192 x_order, c11, c12, c13, c14, c15, c16, c17, c18] (fun rv w' => AW X 66 [none, none, none, none] (rv.toList ++ []) w' bc bs))) ∧ (¬ l2 ≤ l1 → vp_in ((l1 + l2) / (2 : Int32)) 8192 ∧ sp_RM_compareRow [aR 0, aI (x_order ((l1 + l2) / (2 : Int32)).toNatClampNeg)] [oC 5 [aI x_thrown, aI x_nodes, aI x_room, aI x_states, aI x_kinds, aI x_rules, aR 1, aR 2, aR 3, aR 4, aR 5, aR 6, aR 7, aR 8, aI x_numberings, aI x_wholes, aI x_gone, aI x_steps, aI x_old, aI x_stuck, aI x_answer, aI x_badWhole, aR 9, aR 10, aR 11, aR 12, aR 13, aR 14, aR 15, aR 16, aR 17, aR 18, aI x_same, aI x_at], c1, c2, c3, c4, c5, c6, c7, c8, c9, iC 8192 x_order, c11, c12, c13, c14, c15, c16, c17, c18] (fun rv w' => AW X 28 [some (aR 0), some (aI l1), some (aI l2), some (aI ((l1 + l2) / (2 : Int32)))] (rv.toList ++ []) w' bc bs))) :
    AW X 7 [some (aR 0), some (aI l1), some (aI l2), none] [] [oC 5 [aI x_thrown, aI x_nodes, aI x_room, aI x_states, aI x_kinds, aI x_rules, aR 1, aR 2, aR 3, aR 4, aR 5, aR 6, aR 7, aR 8, aI x_numberings, aI x_wholes, aI x_gone, aI x_steps, aI x_old, aI x_stuck, aI x_answer, aI x_badWhole, aR 9, aR 10, aR 11, aR 12, aR 13, aR 14, aR 15, aR 16, aR 17, aR 18, aI x_same, aI x_at], c1, c2, c3, c4, c5, c6, c7, c8, c9, iC 8192 x_order, c11, c12, c13, c14, c15, c16, c17, c18] bc bs := by
  refine aw_iload_n K d_RM_isThere_7 rfl rfl ?_
  refine aw_iload_n K d_RM_isThere_8 rfl rfl ?_
  refine aw_icmp_ge K d_RM_isThere_9 (t := 43) (by decide) rfl (fun q => ?_) (fun q => ?_)
  · replace h := h.1 q
    refine aw_aload_n K d_RM_isThere_43 rfl rfl ?_
    refine aw_iload_n K d_RM_isThere_44 rfl rfl ?_
    refine aw_putf K fp_RM_139 d_RM_isThere_45 rfl rfl (Nat.le_of_ble_eq_true rfl) (am_fit_i _) (w' := [oC 5 [aI x_thrown, aI x_nodes, aI x_room, aI x_states, aI x_kinds, aI x_rules, aR 1, aR 2, aR 3, aR 4, aR 5, aR 6, aR 7, aR 8, aI x_numberings, aI x_wholes, aI x_gone, aI x_steps, aI x_old, aI x_stuck, aI x_answer, aI x_badWhole, aR 9, aR 10, aR 11, aR 12, aR 13, aR 14, aR 15, aR 16, aR 17, aR 18, aI x_same, aI l1], c1, c2, c3, c4, c5, c6, c7, c8, c9, iC 8192 x_order, c11, c12, c13, c14, c15, c16, c17, c18]) rfl ?_
    refine aw_iload_n K d_RM_isThere_48 rfl rfl ?_
    refine aw_aload_n K d_RM_isThere_49 rfl rfl ?_
    refine aw_getf K fd_RM_82 d_RM_isThere_50 rfl rfl rfl ?_
    refine aw_icmp_ge K d_RM_isThere_53 (t := 73) (by decide) rfl (fun q => ?_) (fun q => ?_)
    · replace h := h.1 q
      refine aw_iconst K d_RM_isThere_73 rfl (v := 0) (by decide) ?_
      exact aw_zret K hr d_RM_isThere_74 (Or.inl rfl) h
    · replace h := h.2 q
      refine aw_aload_n K d_RM_isThere_56 rfl rfl ?_
      refine aw_aload_n K d_RM_isThere_57 rfl rfl ?_
      refine aw_getf K fd_RM_43 d_RM_isThere_58 rfl rfl rfl ?_
      refine aw_iload_n K d_RM_isThere_61 rfl rfl ?_
      refine aw_iald K d_RM_isThere_62 rfl rfl h.1 ?_
      replace h := h.2
      refine aw_less [0, 1, 2] rfl ?_
      exact aw_callV K c_RM_compareRow cb_RM_135 ci_RM_compareRow cs_RM_compareRow hdd_RM_compareRow (k := 0) rfl rfl d_RM_isThere_63 rfl (av := [aI (x_order l1.toNatClampNeg)]) rfl (Nat.le_of_ble_eq_true rfl) h (fun rv w' hF => hF)
  · replace h := h.2 q
    refine aw_iload_n K d_RM_isThere_12 rfl rfl ?_
    refine aw_iload_n K d_RM_isThere_13 rfl rfl ?_
    refine aw_iadd K d_RM_isThere_14 rfl ?_
    refine aw_iconst K d_RM_isThere_15 rfl (v := 2) (by decide) ?_
    refine aw_idiv K d_RM_isThere_16 rfl (by decide) ?_
    refine aw_istore_n K d_RM_isThere_17 rfl (by decide) (lv' := [some (aR 0), some (aI l1), some (aI l2), some (aI ((l1 + l2) / (2 : Int32)))]) rfl ?_
    refine aw_aload_n K d_RM_isThere_18 rfl rfl ?_
    refine aw_aload_n K d_RM_isThere_19 rfl rfl ?_
    refine aw_getf K fd_RM_43 d_RM_isThere_20 rfl rfl rfl ?_
    refine aw_iload_n K d_RM_isThere_23 rfl rfl ?_
    refine aw_iald K d_RM_isThere_24 rfl rfl h.1 ?_
    replace h := h.2
    exact aw_callV K c_RM_compareRow cb_RM_135 ci_RM_compareRow cs_RM_compareRow hdd_RM_compareRow (k := 0) rfl rfl d_RM_isThere_25 rfl (av := [aI (x_order ((l1 + l2) / (2 : Int32)).toNatClampNeg)]) rfl (Nat.le_of_ble_eq_true rfl) h (fun rv w' hF => hF)
set_option maxRecDepth 20000 in
theorem x_RM_isThere_28 {X : am_X} {dd bc bs : Nat} (K : am_ok X b_RM_isThere R_RM 4 dd) {post : Option am_V → List am_C → Prop} (hr : am_rt X (some .boolean) post) {l1 l2 l3 s0 x_thrown x_nodes x_room x_states x_kinds x_rules x_numberings x_wholes x_gone x_steps x_old x_stuck x_answer x_badWhole x_same x_at : Int32} {x_order : Nat → Int32} {c1 c2 c3 c4 c5 c6 c7 c8 c9 c11 c12 c13 c14 c15 c16 c17 c18 : am_C}
    (h : (0 ≤ s0 → AW X 7 [some (aR 0), some (aI l1), some (aI l3), none] [] [oC 5 [aI x_thrown, aI x_nodes, aI x_room, aI x_states, aI x_kinds, aI x_rules, aR 1, aR 2, aR 3, aR 4, aR 5, aR 6, aR 7, aR 8, aI x_numberings, aI x_wholes, aI x_gone, aI x_steps, aI x_old, aI x_stuck, aI x_answer, aI x_badWhole, aR 9, aR 10, aR 11, aR 12, aR 13, aR 14, aR 15, aR 16, aR 17, aR 18, aI x_same, aI x_at], c1, c2, c3, c4, c5, c6, c7, c8, c9, iC 8192 x_order, c11, c12, c13, c14, c15, c16, c17, c18] bc bs) ∧ (¬ 0 ≤ s0 → AW X 7 [some (aR 0), some (aI (l3 + (1 : Int32))), some (aI l2), none] [] [oC 5 [aI x_thrown, aI x_nodes, aI x_room, aI x_states, aI x_kinds, aI x_rules, aR 1, aR 2, aR 3, aR 4, aR 5, aR 6, aR 7, aR 8, aI x_numberings, aI x_wholes, aI x_gone, aI x_steps, aI x_old, aI x_stuck, aI x_answer, aI x_badWhole, aR 9, aR 10, aR 11, aR 12, aR 13, aR 14, aR 15, aR 16, aR 17, aR 18, aI x_same, aI x_at], c1, c2, c3, c4, c5, c6, c7, c8, c9, iC 8192 x_order, c11, c12, c13, c14, c15, c16, c17, c18] bc bs)) :
    AW X 28 [some (aR 0), some (aI l1), some (aI l2), some (aI l3)] [aI s0] [oC 5 [aI x_thrown, aI x_nodes, aI x_room, aI x_states, aI x_kinds, aI x_rules, aR 1, aR 2, aR 3, aR 4, aR 5, aR 6, aR 7, aR 8, aI x_numberings, aI x_wholes, aI x_gone, aI x_steps, aI x_old, aI x_stuck, aI x_answer, aI x_badWhole, aR 9, aR 10, aR 11, aR 12, aR 13, aR 14, aR 15, aR 16, aR 17, aR 18, aI x_same, aI x_at], c1, c2, c3, c4, c5, c6, c7, c8, c9, iC 8192 x_order, c11, c12, c13, c14, c15, c16, c17, c18] bc bs := by
  refine aw_if_ge K d_RM_isThere_28 (t := 38) (by decide) rfl (fun q => ?_) (fun q => ?_)
  · replace h := h.1 q
    refine aw_iload_n K d_RM_isThere_38 rfl rfl ?_
    refine aw_istore_n K d_RM_isThere_39 rfl (by decide) (lv' := [some (aR 0), some (aI l1), some (aI l3), some (aI l3)]) rfl ?_
    refine aw_goto K d_RM_isThere_40 (n := 7) (by decide) ?_
    refine aw_less [3] rfl ?_
    exact h
  · replace h := h.2 q
    refine aw_iload_n K d_RM_isThere_31 rfl rfl ?_
    refine aw_iconst K d_RM_isThere_32 rfl (v := 1) (by decide) ?_
    refine aw_iadd K d_RM_isThere_33 rfl ?_
    refine aw_istore_n K d_RM_isThere_34 rfl (by decide) (lv' := [some (aR 0), some (aI (l3 + (1 : Int32))), some (aI l2), some (aI l3)]) rfl ?_
    refine aw_goto K d_RM_isThere_35 (n := 40) (by decide) ?_
    refine aw_goto K d_RM_isThere_40 (n := 7) (by decide) ?_
    refine aw_less [3] rfl ?_
    exact h
set_option maxRecDepth 20000 in
theorem x_RM_isThere_66 {X : am_X} {dd bc bs : Nat} (K : am_ok X b_RM_isThere R_RM 4 dd) {post : Option am_V → List am_C → Prop} (hr : am_rt X (some .boolean) post) {s0 x_thrown x_nodes x_room x_states x_kinds x_rules x_numberings x_wholes x_gone x_steps x_old x_stuck x_answer x_badWhole x_same x_at : Int32} {x_order : Nat → Int32} {c1 c2 c3 c4 c5 c6 c7 c8 c9 c11 c12 c13 c14 c15 c16 c17 c18 : am_C}
    (h : (¬ s0 = 0 → post (some (aI 0)) [oC 5 [aI x_thrown, aI x_nodes, aI x_room, aI x_states, aI x_kinds, aI x_rules, aR 1, aR 2, aR 3, aR 4, aR 5, aR 6, aR 7, aR 8, aI x_numberings, aI x_wholes, aI x_gone, aI x_steps, aI x_old, aI x_stuck, aI x_answer, aI x_badWhole, aR 9, aR 10, aR 11, aR 12, aR 13, aR 14, aR 15, aR 16, aR 17, aR 18, aI x_same, aI x_at], c1, c2, c3, c4, c5, c6, c7, c8, c9, iC 8192 x_order, c11, c12, c13, c14, c15, c16, c17, c18]) ∧ (s0 = 0 → post (some (aI 1)) [oC 5 [aI x_thrown, aI x_nodes, aI x_room, aI x_states, aI x_kinds, aI x_rules, aR 1, aR 2, aR 3, aR 4, aR 5, aR 6, aR 7, aR 8, aI x_numberings, aI x_wholes, aI x_gone, aI x_steps, aI x_old, aI x_stuck, aI x_answer, aI x_badWhole, aR 9, aR 10, aR 11, aR 12, aR 13, aR 14, aR 15, aR 16, aR 17, aR 18, aI x_same, aI x_at], c1, c2, c3, c4, c5, c6, c7, c8, c9, iC 8192 x_order, c11, c12, c13, c14, c15, c16, c17, c18])) :
    AW X 66 [none, none, none, none] [aI s0] [oC 5 [aI x_thrown, aI x_nodes, aI x_room, aI x_states, aI x_kinds, aI x_rules, aR 1, aR 2, aR 3, aR 4, aR 5, aR 6, aR 7, aR 8, aI x_numberings, aI x_wholes, aI x_gone, aI x_steps, aI x_old, aI x_stuck, aI x_answer, aI x_badWhole, aR 9, aR 10, aR 11, aR 12, aR 13, aR 14, aR 15, aR 16, aR 17, aR 18, aI x_same, aI x_at], c1, c2, c3, c4, c5, c6, c7, c8, c9, iC 8192 x_order, c11, c12, c13, c14, c15, c16, c17, c18] bc bs := by
  refine aw_if_ne K d_RM_isThere_66 (t := 73) (by decide) rfl (fun q => ?_) (fun q => ?_)
  · replace h := h.1 q
    refine aw_iconst K d_RM_isThere_73 rfl (v := 0) (by decide) ?_
    exact aw_zret K hr d_RM_isThere_74 (Or.inl rfl) h
  · replace h := h.2 q
    refine aw_iconst K d_RM_isThere_69 rfl (v := 1) (by decide) ?_
    refine aw_goto K d_RM_isThere_70 (n := 74) (by decide) ?_
    exact aw_zret K hr d_RM_isThere_74 (Or.inr rfl) h
set_option maxRecDepth 20000 in
theorem x_RM_isBad_0 {X : am_X} {dd bc bs : Nat} (K : am_ok X b_RM_isBad R_RM 4 dd) {post : Option am_V → List am_C → Prop} (hr : am_rt X (some .boolean) post) {x_thrown x_nodes x_room x_states x_kinds x_rules x_numberings x_wholes x_gone x_steps x_old x_stuck x_answer x_badWhole x_same x_at : Int32} {x_bad x_least : Nat → Int32} {c1 c2 c3 c4 c5 c6 c8 c9 c10 c11 c12 c13 c14 c15 c16 c17 : am_C}
    (h : AW X 4 [some (aR 0), some (aI 0), some (aI 0), none] [] [oC 5 [aI x_thrown, aI x_nodes, aI x_room, aI x_states, aI x_kinds, aI x_rules, aR 1, aR 2, aR 3, aR 4, aR 5, aR 6, aR 7, aR 8, aI x_numberings, aI x_wholes, aI x_gone, aI x_steps, aI x_old, aI x_stuck, aI x_answer, aI x_badWhole, aR 9, aR 10, aR 11, aR 12, aR 13, aR 14, aR 15, aR 16, aR 17, aR 18, aI x_same, aI x_at], c1, c2, c3, c4, c5, c6, zC 64 x_bad, c8, c9, c10, c11, c12, c13, c14, c15, c16, c17, iC 12 x_least] bc bs) :
    AW X 0 [some (aR 0), none, none, none] [] [oC 5 [aI x_thrown, aI x_nodes, aI x_room, aI x_states, aI x_kinds, aI x_rules, aR 1, aR 2, aR 3, aR 4, aR 5, aR 6, aR 7, aR 8, aI x_numberings, aI x_wholes, aI x_gone, aI x_steps, aI x_old, aI x_stuck, aI x_answer, aI x_badWhole, aR 9, aR 10, aR 11, aR 12, aR 13, aR 14, aR 15, aR 16, aR 17, aR 18, aI x_same, aI x_at], c1, c2, c3, c4, c5, c6, zC 64 x_bad, c8, c9, c10, c11, c12, c13, c14, c15, c16, c17, iC 12 x_least] bc bs := by
  refine aw_iconst K d_RM_isBad_0 rfl (v := 0) (by decide) ?_
  refine aw_istore_n K d_RM_isBad_1 rfl (by decide) (lv' := [some (aR 0), some (aI 0), none, none]) rfl ?_
  refine aw_iconst K d_RM_isBad_2 rfl (v := 0) (by decide) ?_
  refine aw_istore_n K d_RM_isBad_3 rfl (by decide) (lv' := [some (aR 0), some (aI 0), some (aI 0), none]) rfl ?_
  exact h
set_option maxRecDepth 20000 in
theorem x_RM_isBad_4 {X : am_X} {dd bc bs : Nat} (K : am_ok X b_RM_isBad R_RM 4 dd) {post : Option am_V → List am_C → Prop} (hr : am_rt X (some .boolean) post) {l1 l2 x_thrown x_nodes x_room x_states x_kinds x_rules x_numberings x_wholes x_gone x_steps x_old x_stuck x_answer x_badWhole x_same x_at : Int32} {x_bad x_least : Nat → Int32} {c1 c2 c3 c4 c5 c6 c8 c9 c10 c11 c12 c13 c14 c15 c16 c17 : am_C}
    (h : (x_nodes ≤ l2 → (l1 = 0 ∨ l1 = 1) ∧ post (some (aI l1)) [oC 5 [aI x_thrown, aI x_nodes, aI x_room, aI x_states, aI x_kinds, aI x_rules, aR 1, aR 2, aR 3, aR 4, aR 5, aR 6, aR 7, aR 8, aI x_numberings, aI x_wholes, aI x_gone, aI x_steps, aI x_old, aI x_stuck, aI x_answer, aI x_badWhole, aR 9, aR 10, aR 11, aR 12, aR 13, aR 14, aR 15, aR 16, aR 17, aR 18, aI x_same, aI x_at], c1, c2, c3, c4, c5, c6, zC 64 x_bad, c8, c9, c10, c11, c12, c13, c14, c15, c16, c17, iC 12 x_least]) ∧ (¬ x_nodes ≤ l2 → AW X 14 [some (aR 0), some (aI l1), some (aI l2), some (aI 0)] [] [oC 5 [aI x_thrown, aI x_nodes, aI x_room, aI x_states, aI x_kinds, aI x_rules, aR 1, aR 2, aR 3, aR 4, aR 5, aR 6, aR 7, aR 8, aI x_numberings, aI x_wholes, aI x_gone, aI x_steps, aI x_old, aI x_stuck, aI x_answer, aI x_badWhole, aR 9, aR 10, aR 11, aR 12, aR 13, aR 14, aR 15, aR 16, aR 17, aR 18, aI x_same, aI x_at], c1, c2, c3, c4, c5, c6, zC 64 x_bad, c8, c9, c10, c11, c12, c13, c14, c15, c16, c17, iC 12 x_least] bc bs)) :
    AW X 4 [some (aR 0), some (aI l1), some (aI l2), none] [] [oC 5 [aI x_thrown, aI x_nodes, aI x_room, aI x_states, aI x_kinds, aI x_rules, aR 1, aR 2, aR 3, aR 4, aR 5, aR 6, aR 7, aR 8, aI x_numberings, aI x_wholes, aI x_gone, aI x_steps, aI x_old, aI x_stuck, aI x_answer, aI x_badWhole, aR 9, aR 10, aR 11, aR 12, aR 13, aR 14, aR 15, aR 16, aR 17, aR 18, aI x_same, aI x_at], c1, c2, c3, c4, c5, c6, zC 64 x_bad, c8, c9, c10, c11, c12, c13, c14, c15, c16, c17, iC 12 x_least] bc bs := by
  refine aw_iload_n K d_RM_isBad_4 rfl rfl ?_
  refine aw_aload_n K d_RM_isBad_5 rfl rfl ?_
  refine aw_getf K fd_RM_70 d_RM_isBad_6 rfl rfl rfl ?_
  refine aw_icmp_ge K d_RM_isBad_9 (t := 65) (by decide) rfl (fun q => ?_) (fun q => ?_)
  · replace h := h.1 q
    refine aw_iload_n K d_RM_isBad_65 rfl rfl ?_
    exact aw_zret K hr d_RM_isBad_66 h.1 h.2
  · replace h := h.2 q
    refine aw_iconst K d_RM_isBad_12 rfl (v := 0) (by decide) ?_
    refine aw_istore_n K d_RM_isBad_13 rfl (by decide) (lv' := [some (aR 0), some (aI l1), some (aI l2), some (aI 0)]) rfl ?_
    exact h
set_option maxRecDepth 20000 in
theorem x_RM_isBad_14 {X : am_X} {dd bc bs : Nat} (K : am_ok X b_RM_isBad R_RM 4 dd) {post : Option am_V → List am_C → Prop} (hr : am_rt X (some .boolean) post) {l1 l2 l3 x_thrown x_nodes x_room x_states x_kinds x_rules x_numberings x_wholes x_gone x_steps x_old x_stuck x_answer x_badWhole x_same x_at : Int32} {x_bad x_least : Nat → Int32} {c1 c2 c3 c4 c5 c6 c8 c9 c10 c11 c12 c13 c14 c15 c16 c17 : am_C}
    (h : (l2 ≤ l3 → AW X 4 [some (aR 0), some (aI l1), some (aI (l2 + 1)), none] [] [oC 5 [aI x_thrown, aI x_nodes, aI x_room, aI x_states, aI x_kinds, aI x_rules, aR 1, aR 2, aR 3, aR 4, aR 5, aR 6, aR 7, aR 8, aI x_numberings, aI x_wholes, aI x_gone, aI x_steps, aI x_old, aI x_stuck, aI x_answer, aI x_badWhole, aR 9, aR 10, aR 11, aR 12, aR 13, aR 14, aR 15, aR 16, aR 17, aR 18, aI x_same, aI x_at], c1, c2, c3, c4, c5, c6, zC 64 x_bad, c8, c9, c10, c11, c12, c13, c14, c15, c16, c17, iC 12 x_least] bc bs) ∧ (¬ l2 ≤ l3 → (¬ l1 = 0 → AW X 14 [some (aR 0), some (aI 1), some (aI l2), some (aI (l3 + 1))] [] [oC 5 [aI x_thrown, aI x_nodes, aI x_room, aI x_states, aI x_kinds, aI x_rules, aR 1, aR 2, aR 3, aR 4, aR 5, aR 6, aR 7, aR 8, aI x_numberings, aI x_wholes, aI x_gone, aI x_steps, aI x_old, aI x_stuck, aI x_answer, aI x_badWhole, aR 9, aR 10, aR 11, aR 12, aR 13, aR 14, aR 15, aR 16, aR 17, aR 18, aI x_same, aI x_at], c1, c2, c3, c4, c5, c6, zC 64 x_bad, c8, c9, c10, c11, c12, c13, c14, c15, c16, c17, iC 12 x_least] bc bs) ∧ (l1 = 0 → vp_in l2 12 ∧ vp_in l3 12 ∧ vp_in (((8 : Int32) * (x_least l2.toNatClampNeg)) + (x_least l3.toNatClampNeg)) 64 ∧ ((x_bad (((8 : Int32) * (x_least l2.toNatClampNeg)) + (x_least l3.toNatClampNeg)).toNatClampNeg) = 0 → AW X 14 [some (aR 0), some (aI 0), some (aI l2), some (aI (l3 + 1))] [] [oC 5 [aI x_thrown, aI x_nodes, aI x_room, aI x_states, aI x_kinds, aI x_rules, aR 1, aR 2, aR 3, aR 4, aR 5, aR 6, aR 7, aR 8, aI x_numberings, aI x_wholes, aI x_gone, aI x_steps, aI x_old, aI x_stuck, aI x_answer, aI x_badWhole, aR 9, aR 10, aR 11, aR 12, aR 13, aR 14, aR 15, aR 16, aR 17, aR 18, aI x_same, aI x_at], c1, c2, c3, c4, c5, c6, zC 64 x_bad, c8, c9, c10, c11, c12, c13, c14, c15, c16, c17, iC 12 x_least] bc bs) ∧ (¬ (x_bad (((8 : Int32) * (x_least l2.toNatClampNeg)) + (x_least l3.toNatClampNeg)).toNatClampNeg) = 0 → AW X 14 [some (aR 0), some (aI 1), some (aI l2), some (aI (l3 + 1))] [] [oC 5 [aI x_thrown, aI x_nodes, aI x_room, aI x_states, aI x_kinds, aI x_rules, aR 1, aR 2, aR 3, aR 4, aR 5, aR 6, aR 7, aR 8, aI x_numberings, aI x_wholes, aI x_gone, aI x_steps, aI x_old, aI x_stuck, aI x_answer, aI x_badWhole, aR 9, aR 10, aR 11, aR 12, aR 13, aR 14, aR 15, aR 16, aR 17, aR 18, aI x_same, aI x_at], c1, c2, c3, c4, c5, c6, zC 64 x_bad, c8, c9, c10, c11, c12, c13, c14, c15, c16, c17, iC 12 x_least] bc bs)))) :
    AW X 14 [some (aR 0), some (aI l1), some (aI l2), some (aI l3)] [] [oC 5 [aI x_thrown, aI x_nodes, aI x_room, aI x_states, aI x_kinds, aI x_rules, aR 1, aR 2, aR 3, aR 4, aR 5, aR 6, aR 7, aR 8, aI x_numberings, aI x_wholes, aI x_gone, aI x_steps, aI x_old, aI x_stuck, aI x_answer, aI x_badWhole, aR 9, aR 10, aR 11, aR 12, aR 13, aR 14, aR 15, aR 16, aR 17, aR 18, aI x_same, aI x_at], c1, c2, c3, c4, c5, c6, zC 64 x_bad, c8, c9, c10, c11, c12, c13, c14, c15, c16, c17, iC 12 x_least] bc bs := by
  refine aw_iload_n K d_RM_isBad_14 rfl rfl ?_
  refine aw_iload_n K d_RM_isBad_15 rfl rfl ?_
  refine aw_icmp_ge K d_RM_isBad_16 (t := 59) (by decide) rfl (fun q => ?_) (fun q => ?_)
  · replace h := h.1 q
    refine aw_iinc K d_RM_isBad_59 rfl rfl (v := l2 + 1) rfl (by decide) (lv' := [some (aR 0), some (aI l1), some (aI (l2 + 1)), some (aI l3)]) rfl ?_
    refine aw_goto K d_RM_isBad_62 (n := 4) (by decide) ?_
    refine aw_less [3] rfl ?_
    exact h
  · replace h := h.2 q
    refine aw_iload_n K d_RM_isBad_19 rfl rfl ?_
    refine aw_if_ne K d_RM_isBad_20 (t := 47) (by decide) rfl (fun q => ?_) (fun q => ?_)
    · replace h := h.1 q
      refine aw_iconst K d_RM_isBad_47 rfl (v := 1) (by decide) ?_
      refine aw_goto K d_RM_isBad_48 (n := 52) (by decide) ?_
      refine aw_istore_n K d_RM_isBad_52 rfl (by decide) (lv' := [some (aR 0), some (aI 1), some (aI l2), some (aI l3)]) rfl ?_
      refine aw_iinc K d_RM_isBad_53 rfl rfl (v := l3 + 1) rfl (by decide) (lv' := [some (aR 0), some (aI 1), some (aI l2), some (aI (l3 + 1))]) rfl ?_
      refine aw_goto K d_RM_isBad_56 (n := 14) (by decide) ?_
      exact h
    · replace h := h.2 q
      refine aw_aload_n K d_RM_isBad_23 rfl rfl ?_
      refine aw_getf K fd_RM_32 d_RM_isBad_24 rfl rfl rfl ?_
      refine aw_bipush K d_RM_isBad_27 rfl (v := 8) (by decide) ?_
      refine aw_aload_n K d_RM_isBad_29 rfl rfl ?_
      refine aw_getf K fd_RM_67 d_RM_isBad_30 rfl rfl rfl ?_
      refine aw_iload_n K d_RM_isBad_33 rfl rfl ?_
      refine aw_iald K d_RM_isBad_34 rfl rfl h.1 ?_
      replace h := h.2
      refine aw_imul K d_RM_isBad_35 rfl ?_
      refine aw_aload_n K d_RM_isBad_36 rfl rfl ?_
      refine aw_getf K fd_RM_67 d_RM_isBad_37 rfl rfl rfl ?_
      refine aw_iload_n K d_RM_isBad_40 rfl rfl ?_
      refine aw_iald K d_RM_isBad_41 rfl rfl h.1 ?_
      replace h := h.2
      refine aw_iadd K d_RM_isBad_42 rfl ?_
      refine aw_zald K d_RM_isBad_43 rfl rfl h.1 ?_
      replace h := h.2
      refine aw_if_eq K d_RM_isBad_44 (t := 51) (by decide) rfl (fun q => ?_) (fun q => ?_)
      · replace h := h.1 q
        refine aw_iconst K d_RM_isBad_51 rfl (v := 0) (by decide) ?_
        refine aw_istore_n K d_RM_isBad_52 rfl (by decide) (lv' := [some (aR 0), some (aI 0), some (aI l2), some (aI l3)]) rfl ?_
        refine aw_iinc K d_RM_isBad_53 rfl rfl (v := l3 + 1) rfl (by decide) (lv' := [some (aR 0), some (aI 0), some (aI l2), some (aI (l3 + 1))]) rfl ?_
        refine aw_goto K d_RM_isBad_56 (n := 14) (by decide) ?_
        exact h
      · replace h := h.2 q
        refine aw_iconst K d_RM_isBad_47 rfl (v := 1) (by decide) ?_
        refine aw_goto K d_RM_isBad_48 (n := 52) (by decide) ?_
        refine aw_istore_n K d_RM_isBad_52 rfl (by decide) (lv' := [some (aR 0), some (aI 1), some (aI l2), some (aI l3)]) rfl ?_
        refine aw_iinc K d_RM_isBad_53 rfl rfl (v := l3 + 1) rfl (by decide) (lv' := [some (aR 0), some (aI 1), some (aI l2), some (aI (l3 + 1))]) rfl ?_
        refine aw_goto K d_RM_isBad_56 (n := 14) (by decide) ?_
        exact h
set_option maxRecDepth 20000 in
theorem x_RM_come_0 {X : am_X} {dd bc bs : Nat} (K : am_ok X b_RM_come R_RM 4 dd) {post : Option am_V → List am_C → Prop} (hr : am_rt X none post) {l1 l2 x_thrown x_nodes x_room x_states x_kinds x_rules x_numberings x_wholes x_gone x_steps x_old x_stuck x_answer x_badWhole x_same x_at : Int32} {x_rows x_order x_level x_parent x_byRule x_stepsOf x_alike x_least : Nat → Int32} {c1 c2 c3 c4 c5 c6 c7 c8 c16 c17 : am_C}
    (h : AW X 5 [some (aR 0), some (aI l1), some (aI l2), some (aI x_wholes)] [] [oC 5 [aI x_thrown, aI x_nodes, aI x_room, aI x_states, aI x_kinds, aI x_rules, aR 1, aR 2, aR 3, aR 4, aR 5, aR 6, aR 7, aR 8, aI x_numberings, aI x_wholes, aI x_gone, aI x_steps, aI x_old, aI x_stuck, aI x_answer, aI x_badWhole, aR 9, aR 10, aR 11, aR 12, aR 13, aR 14, aR 15, aR 16, aR 17, aR 18, aI x_same, aI x_at], c1, c2, c3, c4, c5, c6, c7, c8, iC 98304 x_rows, iC 8192 x_order, iC 8192 x_level, iC 8192 x_parent, iC 8192 x_byRule, iC 8192 x_stepsOf, iC 8192 x_alike, c16, c17, iC 12 x_least] bc bs) :
    AW X 0 [some (aR 0), some (aI l1), some (aI l2), none] [] [oC 5 [aI x_thrown, aI x_nodes, aI x_room, aI x_states, aI x_kinds, aI x_rules, aR 1, aR 2, aR 3, aR 4, aR 5, aR 6, aR 7, aR 8, aI x_numberings, aI x_wholes, aI x_gone, aI x_steps, aI x_old, aI x_stuck, aI x_answer, aI x_badWhole, aR 9, aR 10, aR 11, aR 12, aR 13, aR 14, aR 15, aR 16, aR 17, aR 18, aI x_same, aI x_at], c1, c2, c3, c4, c5, c6, c7, c8, iC 98304 x_rows, iC 8192 x_order, iC 8192 x_level, iC 8192 x_parent, iC 8192 x_byRule, iC 8192 x_stepsOf, iC 8192 x_alike, c16, c17, iC 12 x_least] bc bs := by
  refine aw_aload_n K d_RM_come_0 rfl rfl ?_
  refine aw_getf K fd_RM_82 d_RM_come_1 rfl rfl rfl ?_
  refine aw_istore_n K d_RM_come_4 rfl (by decide) (lv' := [some (aR 0), some (aI l1), some (aI l2), some (aI x_wholes)]) rfl ?_
  exact h
set_option maxRecDepth 20000 in
theorem x_RM_come_5 {X : am_X} {dd bc bs : Nat} (K : am_ok X b_RM_come R_RM 4 dd) {post : Option am_V → List am_C → Prop} (hr : am_rt X none post) {l1 l2 l3 x_thrown x_nodes x_room x_states x_kinds x_rules x_numberings x_wholes x_gone x_steps x_old x_stuck x_answer x_badWhole x_same x_at : Int32} {x_rows x_order x_level x_parent x_byRule x_stepsOf x_alike x_least : Nat → Int32} {c1 c2 c3 c4 c5 c6 c7 c8 c16 c17 : am_C}
    (h : (l3 ≤ x_at → vp_in x_at 8192 ∧ AW X 48 [some (aR 0), some (aI l1), some (aI l2), some (aI 0)] [] [oC 5 [aI x_thrown, aI x_nodes, aI x_room, aI x_states, aI x_kinds, aI x_rules, aR 1, aR 2, aR 3, aR 4, aR 5, aR 6, aR 7, aR 8, aI x_numberings, aI x_wholes, aI x_gone, aI x_steps, aI x_old, aI x_stuck, aI x_answer, aI x_badWhole, aR 9, aR 10, aR 11, aR 12, aR 13, aR 14, aR 15, aR 16, aR 17, aR 18, aI x_same, aI x_at], c1, c2, c3, c4, c5, c6, c7, c8, iC 98304 x_rows, iC 8192 (upd x_order x_at.toNatClampNeg x_wholes), iC 8192 x_level, iC 8192 x_parent, iC 8192 x_byRule, iC 8192 x_stepsOf, iC 8192 x_alike, c16, c17, iC 12 x_least] bc bs) ∧ (¬ l3 ≤ x_at → vp_in (l3 - (1 : Int32)) 8192 ∧ vp_in l3 8192 ∧ AW X 5 [some (aR 0), some (aI l1), some (aI l2), some (aI (l3 + (-1)))] [] [oC 5 [aI x_thrown, aI x_nodes, aI x_room, aI x_states, aI x_kinds, aI x_rules, aR 1, aR 2, aR 3, aR 4, aR 5, aR 6, aR 7, aR 8, aI x_numberings, aI x_wholes, aI x_gone, aI x_steps, aI x_old, aI x_stuck, aI x_answer, aI x_badWhole, aR 9, aR 10, aR 11, aR 12, aR 13, aR 14, aR 15, aR 16, aR 17, aR 18, aI x_same, aI x_at], c1, c2, c3, c4, c5, c6, c7, c8, iC 98304 x_rows, iC 8192 (upd x_order l3.toNatClampNeg (x_order (l3 - (1 : Int32)).toNatClampNeg)), iC 8192 x_level, iC 8192 x_parent, iC 8192 x_byRule, iC 8192 x_stepsOf, iC 8192 x_alike, c16, c17, iC 12 x_least] bc bs)) :
    AW X 5 [some (aR 0), some (aI l1), some (aI l2), some (aI l3)] [] [oC 5 [aI x_thrown, aI x_nodes, aI x_room, aI x_states, aI x_kinds, aI x_rules, aR 1, aR 2, aR 3, aR 4, aR 5, aR 6, aR 7, aR 8, aI x_numberings, aI x_wholes, aI x_gone, aI x_steps, aI x_old, aI x_stuck, aI x_answer, aI x_badWhole, aR 9, aR 10, aR 11, aR 12, aR 13, aR 14, aR 15, aR 16, aR 17, aR 18, aI x_same, aI x_at], c1, c2, c3, c4, c5, c6, c7, c8, iC 98304 x_rows, iC 8192 x_order, iC 8192 x_level, iC 8192 x_parent, iC 8192 x_byRule, iC 8192 x_stepsOf, iC 8192 x_alike, c16, c17, iC 12 x_least] bc bs := by
  refine aw_iload_n K d_RM_come_5 rfl rfl ?_
  refine aw_aload_n K d_RM_come_6 rfl rfl ?_
  refine aw_getf K fd_RM_139 d_RM_come_7 rfl rfl rfl ?_
  refine aw_icmp_le K d_RM_come_10 (t := 33) (by decide) rfl (fun q => ?_) (fun q => ?_)
  · replace h := h.1 q
    refine aw_aload_n K d_RM_come_33 rfl rfl ?_
    refine aw_getf K fd_RM_43 d_RM_come_34 rfl rfl rfl ?_
    refine aw_aload_n K d_RM_come_37 rfl rfl ?_
    refine aw_getf K fd_RM_139 d_RM_come_38 rfl rfl rfl ?_
    refine aw_aload_n K d_RM_come_41 rfl rfl ?_
    refine aw_getf K fd_RM_82 d_RM_come_42 rfl rfl rfl ?_
    refine aw_iast K d_RM_come_45 rfl rfl h.1 (w' := [oC 5 [aI x_thrown, aI x_nodes, aI x_room, aI x_states, aI x_kinds, aI x_rules, aR 1, aR 2, aR 3, aR 4, aR 5, aR 6, aR 7, aR 8, aI x_numberings, aI x_wholes, aI x_gone, aI x_steps, aI x_old, aI x_stuck, aI x_answer, aI x_badWhole, aR 9, aR 10, aR 11, aR 12, aR 13, aR 14, aR 15, aR 16, aR 17, aR 18, aI x_same, aI x_at], c1, c2, c3, c4, c5, c6, c7, c8, iC 98304 x_rows, iC 8192 (upd x_order x_at.toNatClampNeg x_wholes), iC 8192 x_level, iC 8192 x_parent, iC 8192 x_byRule, iC 8192 x_stepsOf, iC 8192 x_alike, c16, c17, iC 12 x_least]) rfl ?_
    replace h := h.2
    refine aw_iconst K d_RM_come_46 rfl (v := 0) (by decide) ?_
    refine aw_istore_n K d_RM_come_47 rfl (by decide) (lv' := [some (aR 0), some (aI l1), some (aI l2), some (aI 0)]) rfl ?_
    exact h
  · replace h := h.2 q
    refine aw_aload_n K d_RM_come_13 rfl rfl ?_
    refine aw_getf K fd_RM_43 d_RM_come_14 rfl rfl rfl ?_
    refine aw_iload_n K d_RM_come_17 rfl rfl ?_
    refine aw_aload_n K d_RM_come_18 rfl rfl ?_
    refine aw_getf K fd_RM_43 d_RM_come_19 rfl rfl rfl ?_
    refine aw_iload_n K d_RM_come_22 rfl rfl ?_
    refine aw_iconst K d_RM_come_23 rfl (v := 1) (by decide) ?_
    refine aw_isub K d_RM_come_24 rfl ?_
    refine aw_iald K d_RM_come_25 rfl rfl h.1 ?_
    replace h := h.2
    refine aw_iast K d_RM_come_26 rfl rfl h.1 (w' := [oC 5 [aI x_thrown, aI x_nodes, aI x_room, aI x_states, aI x_kinds, aI x_rules, aR 1, aR 2, aR 3, aR 4, aR 5, aR 6, aR 7, aR 8, aI x_numberings, aI x_wholes, aI x_gone, aI x_steps, aI x_old, aI x_stuck, aI x_answer, aI x_badWhole, aR 9, aR 10, aR 11, aR 12, aR 13, aR 14, aR 15, aR 16, aR 17, aR 18, aI x_same, aI x_at], c1, c2, c3, c4, c5, c6, c7, c8, iC 98304 x_rows, iC 8192 (upd x_order l3.toNatClampNeg (x_order (l3 - (1 : Int32)).toNatClampNeg)), iC 8192 x_level, iC 8192 x_parent, iC 8192 x_byRule, iC 8192 x_stepsOf, iC 8192 x_alike, c16, c17, iC 12 x_least]) rfl ?_
    replace h := h.2
    refine aw_iinc K d_RM_come_27 rfl rfl (v := l3 + (-1)) rfl (by decide) (lv' := [some (aR 0), some (aI l1), some (aI l2), some (aI (l3 + (-1)))]) rfl ?_
    refine aw_goto K d_RM_come_30 (n := 5) (by decide) ?_
    exact h
set_option maxRecDepth 20000 in
theorem x_RM_come_48 {X : am_X} {dd bc bs : Nat} (K : am_ok X b_RM_come R_RM 4 dd) {post : Option am_V → List am_C → Prop} (hr : am_rt X none post) {l1 l2 l3 x_thrown x_nodes x_room x_states x_kinds x_rules x_numberings x_wholes x_gone x_steps x_old x_stuck x_answer x_badWhole x_same x_at : Int32} {x_rows x_order x_level x_parent x_byRule x_stepsOf x_alike x_least : Nat → Int32} {c1 c2 c3 c4 c5 c6 c7 c8 c16 c17 : am_C}
    (h : (((5 : Int32) + (x_least (4 : Int32).toNatClampNeg)) ≤ l3 → (0 ≤ l1 → vp_in l1 8192 ∧ AW X 110 [some (aR 0), some (aI l1), some (aI l2), none] [aI ((x_level l1.toNatClampNeg) + (1 : Int32)), aI x_wholes, aR 11] [oC 5 [aI x_thrown, aI x_nodes, aI x_room, aI x_states, aI x_kinds, aI x_rules, aR 1, aR 2, aR 3, aR 4, aR 5, aR 6, aR 7, aR 8, aI x_numberings, aI x_wholes, aI x_gone, aI x_steps, aI x_old, aI x_stuck, aI x_answer, aI x_badWhole, aR 9, aR 10, aR 11, aR 12, aR 13, aR 14, aR 15, aR 16, aR 17, aR 18, aI x_same, aI x_at], c1, c2, c3, c4, c5, c6, c7, c8, iC 98304 x_rows, iC 8192 x_order, iC 8192 x_level, iC 8192 x_parent, iC 8192 x_byRule, iC 8192 x_stepsOf, iC 8192 x_alike, c16, c17, iC 12 x_least] bc bs) ∧ (¬ 0 ≤ l1 → AW X 110 [some (aR 0), some (aI l1), some (aI l2), none] [aI 0, aI x_wholes, aR 11] [oC 5 [aI x_thrown, aI x_nodes, aI x_room, aI x_states, aI x_kinds, aI x_rules, aR 1, aR 2, aR 3, aR 4, aR 5, aR 6, aR 7, aR 8, aI x_numberings, aI x_wholes, aI x_gone, aI x_steps, aI x_old, aI x_stuck, aI x_answer, aI x_badWhole, aR 9, aR 10, aR 11, aR 12, aR 13, aR 14, aR 15, aR 16, aR 17, aR 18, aI x_same, aI x_at], c1, c2, c3, c4, c5, c6, c7, c8, iC 98304 x_rows, iC 8192 x_order, iC 8192 x_level, iC 8192 x_parent, iC 8192 x_byRule, iC 8192 x_stepsOf, iC 8192 x_alike, c16, c17, iC 12 x_least] bc bs)) ∧ (¬ ((5 : Int32) + (x_least (4 : Int32).toNatClampNeg)) ≤ l3 → vp_in l3 12 ∧ vp_in (((12 : Int32) * x_wholes) + l3) 98304 ∧ AW X 48 [some (aR 0), some (aI l1), some (aI l2), some (aI (l3 + 1))] [] [oC 5 [aI x_thrown, aI x_nodes, aI x_room, aI x_states, aI x_kinds, aI x_rules, aR 1, aR 2, aR 3, aR 4, aR 5, aR 6, aR 7, aR 8, aI x_numberings, aI x_wholes, aI x_gone, aI x_steps, aI x_old, aI x_stuck, aI x_answer, aI x_badWhole, aR 9, aR 10, aR 11, aR 12, aR 13, aR 14, aR 15, aR 16, aR 17, aR 18, aI x_same, aI x_at], c1, c2, c3, c4, c5, c6, c7, c8, iC 98304 (upd x_rows (((12 : Int32) * x_wholes) + l3).toNatClampNeg (x_least l3.toNatClampNeg)), iC 8192 x_order, iC 8192 x_level, iC 8192 x_parent, iC 8192 x_byRule, iC 8192 x_stepsOf, iC 8192 x_alike, c16, c17, iC 12 x_least] bc bs)) :
    AW X 48 [some (aR 0), some (aI l1), some (aI l2), some (aI l3)] [] [oC 5 [aI x_thrown, aI x_nodes, aI x_room, aI x_states, aI x_kinds, aI x_rules, aR 1, aR 2, aR 3, aR 4, aR 5, aR 6, aR 7, aR 8, aI x_numberings, aI x_wholes, aI x_gone, aI x_steps, aI x_old, aI x_stuck, aI x_answer, aI x_badWhole, aR 9, aR 10, aR 11, aR 12, aR 13, aR 14, aR 15, aR 16, aR 17, aR 18, aI x_same, aI x_at], c1, c2, c3, c4, c5, c6, c7, c8, iC 98304 x_rows, iC 8192 x_order, iC 8192 x_level, iC 8192 x_parent, iC 8192 x_byRule, iC 8192 x_stepsOf, iC 8192 x_alike, c16, c17, iC 12 x_least] bc bs := by
  refine aw_iload_n K d_RM_come_48 rfl rfl ?_
  refine aw_iconst K d_RM_come_49 rfl (v := 5) (by decide) ?_
  refine aw_aload_n K d_RM_come_50 rfl rfl ?_
  refine aw_getf K fd_RM_67 d_RM_come_51 rfl rfl rfl ?_
  refine aw_iconst K d_RM_come_54 rfl (v := 4) (by decide) ?_
  refine aw_iald K d_RM_come_55 rfl rfl (vp_in_nI (n := 4) (by decide) (by decide)) ?_
  refine aw_iadd K d_RM_come_56 rfl ?_
  refine aw_icmp_ge K d_RM_come_57 (t := 86) (by decide) rfl (fun q => ?_) (fun q => ?_)
  · replace h := h.1 q
    refine aw_aload_n K d_RM_come_86 rfl rfl ?_
    refine aw_getf K fd_RM_46 d_RM_come_87 rfl rfl rfl ?_
    refine aw_aload_n K d_RM_come_90 rfl rfl ?_
    refine aw_getf K fd_RM_82 d_RM_come_91 rfl rfl rfl ?_
    refine aw_iload_n K d_RM_come_94 rfl rfl ?_
    refine aw_if_ge K d_RM_come_95 (t := 102) (by decide) rfl (fun q => ?_) (fun q => ?_)
    · replace h := h.1 q
      refine aw_aload_n K d_RM_come_102 rfl rfl ?_
      refine aw_getf K fd_RM_46 d_RM_come_103 rfl rfl rfl ?_
      refine aw_iload_n K d_RM_come_106 rfl rfl ?_
      refine aw_iald K d_RM_come_107 rfl rfl h.1 ?_
      replace h := h.2
      refine aw_iconst K d_RM_come_108 rfl (v := 1) (by decide) ?_
      refine aw_iadd K d_RM_come_109 rfl ?_
      refine aw_less [3] rfl ?_
      exact h
    · replace h := h.2 q
      refine aw_iconst K d_RM_come_98 rfl (v := 0) (by decide) ?_
      refine aw_goto K d_RM_come_99 (n := 110) (by decide) ?_
      refine aw_less [3] rfl ?_
      exact h
  · replace h := h.2 q
    refine aw_aload_n K d_RM_come_60 rfl rfl ?_
    refine aw_getf K fd_RM_40 d_RM_come_61 rfl rfl rfl ?_
    refine aw_bipush K d_RM_come_64 rfl (v := 12) (by decide) ?_
    refine aw_aload_n K d_RM_come_66 rfl rfl ?_
    refine aw_getf K fd_RM_82 d_RM_come_67 rfl rfl rfl ?_
    refine aw_imul K d_RM_come_70 rfl ?_
    refine aw_iload_n K d_RM_come_71 rfl rfl ?_
    refine aw_iadd K d_RM_come_72 rfl ?_
    refine aw_aload_n K d_RM_come_73 rfl rfl ?_
    refine aw_getf K fd_RM_67 d_RM_come_74 rfl rfl rfl ?_
    refine aw_iload_n K d_RM_come_77 rfl rfl ?_
    refine aw_iald K d_RM_come_78 rfl rfl h.1 ?_
    replace h := h.2
    refine aw_iast K d_RM_come_79 rfl rfl h.1 (w' := [oC 5 [aI x_thrown, aI x_nodes, aI x_room, aI x_states, aI x_kinds, aI x_rules, aR 1, aR 2, aR 3, aR 4, aR 5, aR 6, aR 7, aR 8, aI x_numberings, aI x_wholes, aI x_gone, aI x_steps, aI x_old, aI x_stuck, aI x_answer, aI x_badWhole, aR 9, aR 10, aR 11, aR 12, aR 13, aR 14, aR 15, aR 16, aR 17, aR 18, aI x_same, aI x_at], c1, c2, c3, c4, c5, c6, c7, c8, iC 98304 (upd x_rows (((12 : Int32) * x_wholes) + l3).toNatClampNeg (x_least l3.toNatClampNeg)), iC 8192 x_order, iC 8192 x_level, iC 8192 x_parent, iC 8192 x_byRule, iC 8192 x_stepsOf, iC 8192 x_alike, c16, c17, iC 12 x_least]) rfl ?_
    replace h := h.2
    refine aw_iinc K d_RM_come_80 rfl rfl (v := l3 + 1) rfl (by decide) (lv' := [some (aR 0), some (aI l1), some (aI l2), some (aI (l3 + 1))]) rfl ?_
    refine aw_goto K d_RM_come_83 (n := 48) (by decide) ?_
    exact h
set_option maxRecDepth 20000 in
theorem x_RM_come_110 {X : am_X} {dd bc bs : Nat} (K : am_ok X b_RM_come R_RM 4 dd) {post : Option am_V → List am_C → Prop} (hr : am_rt X none post) {sp_RM_isBad : am_S} {dd_RM_isBad : Nat} (c_RM_isBad : Con y_RM_isBad b_RM_isBad 4 (some .boolean) dd_RM_isBad 0 0 false sp_RM_isBad) (hdd_RM_isBad : dd_RM_isBad + 1 ≤ dd) {l1 l2 s0 s1 x_thrown x_nodes x_room x_states x_kinds x_rules x_numberings x_wholes x_gone x_steps x_old x_stuck x_answer x_badWhole x_same x_at : Int32} {x_rows x_order x_level x_parent x_byRule x_stepsOf x_alike x_least : Nat → Int32} {c1 c2 c3 c4 c5 c6 c7 c8 c16 c17 : am_C}
    (h : vp_in s1 8192 ∧ vp_in x_wholes 8192 ∧ vp_in x_wholes 8192 ∧ vp_in x_wholes 8192 ∧ vp_in x_wholes 8192 ∧ sp_RM_isBad [aR 0] [oC 5 [aI x_thrown, aI x_nodes, aI x_room, aI x_states, aI x_kinds, aI x_rules, aR 1, aR 2, aR 3, aR 4, aR 5, aR 6, aR 7, aR 8, aI x_numberings, aI x_wholes, aI x_gone, aI x_steps, aI x_old, aI x_stuck, aI x_answer, aI x_badWhole, aR 9, aR 10, aR 11, aR 12, aR 13, aR 14, aR 15, aR 16, aR 17, aR 18, aI x_same, aI x_at], c1, c2, c3, c4, c5, c6, c7, c8, iC 98304 x_rows, iC 8192 x_order, iC 8192 (upd x_level s1.toNatClampNeg s0), iC 8192 (upd x_parent x_wholes.toNatClampNeg l1), iC 8192 (upd x_byRule x_wholes.toNatClampNeg l2), iC 8192 (upd x_stepsOf x_wholes.toNatClampNeg ((-1))), iC 8192 (upd x_alike x_wholes.toNatClampNeg x_same), c16, c17, iC 12 x_least] (fun rv w' => AW X 158 [some (aR 0), none, none, none] (rv.toList ++ []) w' bc bs)) :
    AW X 110 [some (aR 0), some (aI l1), some (aI l2), none] [aI s0, aI s1, aR 11] [oC 5 [aI x_thrown, aI x_nodes, aI x_room, aI x_states, aI x_kinds, aI x_rules, aR 1, aR 2, aR 3, aR 4, aR 5, aR 6, aR 7, aR 8, aI x_numberings, aI x_wholes, aI x_gone, aI x_steps, aI x_old, aI x_stuck, aI x_answer, aI x_badWhole, aR 9, aR 10, aR 11, aR 12, aR 13, aR 14, aR 15, aR 16, aR 17, aR 18, aI x_same, aI x_at], c1, c2, c3, c4, c5, c6, c7, c8, iC 98304 x_rows, iC 8192 x_order, iC 8192 x_level, iC 8192 x_parent, iC 8192 x_byRule, iC 8192 x_stepsOf, iC 8192 x_alike, c16, c17, iC 12 x_least] bc bs := by
  refine aw_iast K d_RM_come_110 rfl rfl h.1 (w' := [oC 5 [aI x_thrown, aI x_nodes, aI x_room, aI x_states, aI x_kinds, aI x_rules, aR 1, aR 2, aR 3, aR 4, aR 5, aR 6, aR 7, aR 8, aI x_numberings, aI x_wholes, aI x_gone, aI x_steps, aI x_old, aI x_stuck, aI x_answer, aI x_badWhole, aR 9, aR 10, aR 11, aR 12, aR 13, aR 14, aR 15, aR 16, aR 17, aR 18, aI x_same, aI x_at], c1, c2, c3, c4, c5, c6, c7, c8, iC 98304 x_rows, iC 8192 x_order, iC 8192 (upd x_level s1.toNatClampNeg s0), iC 8192 x_parent, iC 8192 x_byRule, iC 8192 x_stepsOf, iC 8192 x_alike, c16, c17, iC 12 x_least]) rfl ?_
  replace h := h.2
  refine aw_aload_n K d_RM_come_111 rfl rfl ?_
  refine aw_getf K fd_RM_49 d_RM_come_112 rfl rfl rfl ?_
  refine aw_aload_n K d_RM_come_115 rfl rfl ?_
  refine aw_getf K fd_RM_82 d_RM_come_116 rfl rfl rfl ?_
  refine aw_iload_n K d_RM_come_119 rfl rfl ?_
  refine aw_iast K d_RM_come_120 rfl rfl h.1 (w' := [oC 5 [aI x_thrown, aI x_nodes, aI x_room, aI x_states, aI x_kinds, aI x_rules, aR 1, aR 2, aR 3, aR 4, aR 5, aR 6, aR 7, aR 8, aI x_numberings, aI x_wholes, aI x_gone, aI x_steps, aI x_old, aI x_stuck, aI x_answer, aI x_badWhole, aR 9, aR 10, aR 11, aR 12, aR 13, aR 14, aR 15, aR 16, aR 17, aR 18, aI x_same, aI x_at], c1, c2, c3, c4, c5, c6, c7, c8, iC 98304 x_rows, iC 8192 x_order, iC 8192 (upd x_level s1.toNatClampNeg s0), iC 8192 (upd x_parent x_wholes.toNatClampNeg l1), iC 8192 x_byRule, iC 8192 x_stepsOf, iC 8192 x_alike, c16, c17, iC 12 x_least]) rfl ?_
  replace h := h.2
  refine aw_aload_n K d_RM_come_121 rfl rfl ?_
  refine aw_getf K fd_RM_52 d_RM_come_122 rfl rfl rfl ?_
  refine aw_aload_n K d_RM_come_125 rfl rfl ?_
  refine aw_getf K fd_RM_82 d_RM_come_126 rfl rfl rfl ?_
  refine aw_iload_n K d_RM_come_129 rfl rfl ?_
  refine aw_iast K d_RM_come_130 rfl rfl h.1 (w' := [oC 5 [aI x_thrown, aI x_nodes, aI x_room, aI x_states, aI x_kinds, aI x_rules, aR 1, aR 2, aR 3, aR 4, aR 5, aR 6, aR 7, aR 8, aI x_numberings, aI x_wholes, aI x_gone, aI x_steps, aI x_old, aI x_stuck, aI x_answer, aI x_badWhole, aR 9, aR 10, aR 11, aR 12, aR 13, aR 14, aR 15, aR 16, aR 17, aR 18, aI x_same, aI x_at], c1, c2, c3, c4, c5, c6, c7, c8, iC 98304 x_rows, iC 8192 x_order, iC 8192 (upd x_level s1.toNatClampNeg s0), iC 8192 (upd x_parent x_wholes.toNatClampNeg l1), iC 8192 (upd x_byRule x_wholes.toNatClampNeg l2), iC 8192 x_stepsOf, iC 8192 x_alike, c16, c17, iC 12 x_least]) rfl ?_
  replace h := h.2
  refine aw_aload_n K d_RM_come_131 rfl rfl ?_
  refine aw_getf K fd_RM_55 d_RM_come_132 rfl rfl rfl ?_
  refine aw_aload_n K d_RM_come_135 rfl rfl ?_
  refine aw_getf K fd_RM_82 d_RM_come_136 rfl rfl rfl ?_
  refine aw_iconst K d_RM_come_139 rfl (v := (-1)) (by decide) ?_
  refine aw_iast K d_RM_come_140 rfl rfl h.1 (w' := [oC 5 [aI x_thrown, aI x_nodes, aI x_room, aI x_states, aI x_kinds, aI x_rules, aR 1, aR 2, aR 3, aR 4, aR 5, aR 6, aR 7, aR 8, aI x_numberings, aI x_wholes, aI x_gone, aI x_steps, aI x_old, aI x_stuck, aI x_answer, aI x_badWhole, aR 9, aR 10, aR 11, aR 12, aR 13, aR 14, aR 15, aR 16, aR 17, aR 18, aI x_same, aI x_at], c1, c2, c3, c4, c5, c6, c7, c8, iC 98304 x_rows, iC 8192 x_order, iC 8192 (upd x_level s1.toNatClampNeg s0), iC 8192 (upd x_parent x_wholes.toNatClampNeg l1), iC 8192 (upd x_byRule x_wholes.toNatClampNeg l2), iC 8192 (upd x_stepsOf x_wholes.toNatClampNeg ((-1))), iC 8192 x_alike, c16, c17, iC 12 x_least]) rfl ?_
  replace h := h.2
  refine aw_aload_n K d_RM_come_141 rfl rfl ?_
  refine aw_getf K fd_RM_58 d_RM_come_142 rfl rfl rfl ?_
  refine aw_aload_n K d_RM_come_145 rfl rfl ?_
  refine aw_getf K fd_RM_82 d_RM_come_146 rfl rfl rfl ?_
  refine aw_aload_n K d_RM_come_149 rfl rfl ?_
  refine aw_getf K fd_RM_124 d_RM_come_150 rfl rfl rfl ?_
  refine aw_iast K d_RM_come_153 rfl rfl h.1 (w' := [oC 5 [aI x_thrown, aI x_nodes, aI x_room, aI x_states, aI x_kinds, aI x_rules, aR 1, aR 2, aR 3, aR 4, aR 5, aR 6, aR 7, aR 8, aI x_numberings, aI x_wholes, aI x_gone, aI x_steps, aI x_old, aI x_stuck, aI x_answer, aI x_badWhole, aR 9, aR 10, aR 11, aR 12, aR 13, aR 14, aR 15, aR 16, aR 17, aR 18, aI x_same, aI x_at], c1, c2, c3, c4, c5, c6, c7, c8, iC 98304 x_rows, iC 8192 x_order, iC 8192 (upd x_level s1.toNatClampNeg s0), iC 8192 (upd x_parent x_wholes.toNatClampNeg l1), iC 8192 (upd x_byRule x_wholes.toNatClampNeg l2), iC 8192 (upd x_stepsOf x_wholes.toNatClampNeg ((-1))), iC 8192 (upd x_alike x_wholes.toNatClampNeg x_same), c16, c17, iC 12 x_least]) rfl ?_
  replace h := h.2
  refine aw_aload_n K d_RM_come_154 rfl rfl ?_
  refine aw_less [1, 2] rfl ?_
  exact aw_callV K c_RM_isBad cb_RM_142 ci_RM_isBad cs_RM_isBad hdd_RM_isBad (k := 0) rfl rfl d_RM_come_155 rfl (av := []) rfl (Nat.le_of_ble_eq_true rfl) h (fun rv w' hF => hF)
set_option maxRecDepth 20000 in
theorem x_RM_come_158 {X : am_X} {dd bc bs : Nat} (K : am_ok X b_RM_come R_RM 4 dd) {post : Option am_V → List am_C → Prop} (hr : am_rt X none post) {s0 x_thrown x_nodes x_room x_states x_kinds x_rules x_numberings x_wholes x_gone x_steps x_old x_stuck x_answer x_badWhole x_same x_at : Int32} {x_rows x_order x_level x_parent x_byRule x_stepsOf x_alike x_least : Nat → Int32} {c1 c2 c3 c4 c5 c6 c7 c8 c16 c17 : am_C}
    (h : (s0 = 0 → post none [oC 5 [aI x_thrown, aI x_nodes, aI x_room, aI x_states, aI x_kinds, aI x_rules, aR 1, aR 2, aR 3, aR 4, aR 5, aR 6, aR 7, aR 8, aI x_numberings, aI (x_wholes + (1 : Int32)), aI x_gone, aI x_steps, aI x_old, aI x_stuck, aI x_answer, aI x_badWhole, aR 9, aR 10, aR 11, aR 12, aR 13, aR 14, aR 15, aR 16, aR 17, aR 18, aI x_same, aI x_at], c1, c2, c3, c4, c5, c6, c7, c8, iC 98304 x_rows, iC 8192 x_order, iC 8192 x_level, iC 8192 x_parent, iC 8192 x_byRule, iC 8192 x_stepsOf, iC 8192 x_alike, c16, c17, iC 12 x_least]) ∧ (¬ s0 = 0 → post none [oC 5 [aI x_thrown, aI x_nodes, aI x_room, aI x_states, aI x_kinds, aI x_rules, aR 1, aR 2, aR 3, aR 4, aR 5, aR 6, aR 7, aR 8, aI x_numberings, aI (x_wholes + (1 : Int32)), aI x_gone, aI x_steps, aI x_old, aI x_stuck, aI ((-2)), aI x_wholes, aR 9, aR 10, aR 11, aR 12, aR 13, aR 14, aR 15, aR 16, aR 17, aR 18, aI x_same, aI x_at], c1, c2, c3, c4, c5, c6, c7, c8, iC 98304 x_rows, iC 8192 x_order, iC 8192 x_level, iC 8192 x_parent, iC 8192 x_byRule, iC 8192 x_stepsOf, iC 8192 x_alike, c16, c17, iC 12 x_least])) :
    AW X 158 [some (aR 0), none, none, none] [aI s0] [oC 5 [aI x_thrown, aI x_nodes, aI x_room, aI x_states, aI x_kinds, aI x_rules, aR 1, aR 2, aR 3, aR 4, aR 5, aR 6, aR 7, aR 8, aI x_numberings, aI x_wholes, aI x_gone, aI x_steps, aI x_old, aI x_stuck, aI x_answer, aI x_badWhole, aR 9, aR 10, aR 11, aR 12, aR 13, aR 14, aR 15, aR 16, aR 17, aR 18, aI x_same, aI x_at], c1, c2, c3, c4, c5, c6, c7, c8, iC 98304 x_rows, iC 8192 x_order, iC 8192 x_level, iC 8192 x_parent, iC 8192 x_byRule, iC 8192 x_stepsOf, iC 8192 x_alike, c16, c17, iC 12 x_least] bc bs := by
  refine aw_if_eq K d_RM_come_158 (t := 175) (by decide) rfl (fun q => ?_) (fun q => ?_)
  · replace h := h.1 q
    refine aw_aload_n K d_RM_come_175 rfl rfl ?_
    refine aw_dup K d_RM_come_176 rfl (fun _ e => nomatch e) ?_
    refine aw_getf K fd_RM_82 d_RM_come_177 rfl rfl rfl ?_
    refine aw_iconst K d_RM_come_180 rfl (v := 1) (by decide) ?_
    refine aw_iadd K d_RM_come_181 rfl ?_
    refine aw_putf K fp_RM_82 d_RM_come_182 rfl rfl (Nat.le_of_ble_eq_true rfl) (am_fit_i _) (w' := [oC 5 [aI x_thrown, aI x_nodes, aI x_room, aI x_states, aI x_kinds, aI x_rules, aR 1, aR 2, aR 3, aR 4, aR 5, aR 6, aR 7, aR 8, aI x_numberings, aI (x_wholes + (1 : Int32)), aI x_gone, aI x_steps, aI x_old, aI x_stuck, aI x_answer, aI x_badWhole, aR 9, aR 10, aR 11, aR 12, aR 13, aR 14, aR 15, aR 16, aR 17, aR 18, aI x_same, aI x_at], c1, c2, c3, c4, c5, c6, c7, c8, iC 98304 x_rows, iC 8192 x_order, iC 8192 x_level, iC 8192 x_parent, iC 8192 x_byRule, iC 8192 x_stepsOf, iC 8192 x_alike, c16, c17, iC 12 x_least]) rfl ?_
    exact aw_vret K hr d_RM_come_185 h
  · replace h := h.2 q
    refine aw_aload_n K d_RM_come_161 rfl rfl ?_
    refine aw_aload_n K d_RM_come_162 rfl rfl ?_
    refine aw_getf K fd_RM_82 d_RM_come_163 rfl rfl rfl ?_
    refine aw_putf K fp_RM_100 d_RM_come_166 rfl rfl (Nat.le_of_ble_eq_true rfl) (am_fit_i _) (w' := [oC 5 [aI x_thrown, aI x_nodes, aI x_room, aI x_states, aI x_kinds, aI x_rules, aR 1, aR 2, aR 3, aR 4, aR 5, aR 6, aR 7, aR 8, aI x_numberings, aI x_wholes, aI x_gone, aI x_steps, aI x_old, aI x_stuck, aI x_answer, aI x_wholes, aR 9, aR 10, aR 11, aR 12, aR 13, aR 14, aR 15, aR 16, aR 17, aR 18, aI x_same, aI x_at], c1, c2, c3, c4, c5, c6, c7, c8, iC 98304 x_rows, iC 8192 x_order, iC 8192 x_level, iC 8192 x_parent, iC 8192 x_byRule, iC 8192 x_stepsOf, iC 8192 x_alike, c16, c17, iC 12 x_least]) rfl ?_
    refine aw_aload_n K d_RM_come_169 rfl rfl ?_
    refine aw_bipush K d_RM_come_170 rfl (v := (-2)) (by decide) ?_
    refine aw_putf K fp_RM_97 d_RM_come_172 rfl rfl (Nat.le_of_ble_eq_true rfl) (am_fit_i _) (w' := [oC 5 [aI x_thrown, aI x_nodes, aI x_room, aI x_states, aI x_kinds, aI x_rules, aR 1, aR 2, aR 3, aR 4, aR 5, aR 6, aR 7, aR 8, aI x_numberings, aI x_wholes, aI x_gone, aI x_steps, aI x_old, aI x_stuck, aI ((-2)), aI x_wholes, aR 9, aR 10, aR 11, aR 12, aR 13, aR 14, aR 15, aR 16, aR 17, aR 18, aI x_same, aI x_at], c1, c2, c3, c4, c5, c6, c7, c8, iC 98304 x_rows, iC 8192 x_order, iC 8192 x_level, iC 8192 x_parent, iC 8192 x_byRule, iC 8192 x_stepsOf, iC 8192 x_alike, c16, c17, iC 12 x_least]) rfl ?_
    refine aw_aload_n K d_RM_come_175 rfl rfl ?_
    refine aw_dup K d_RM_come_176 rfl (fun _ e => nomatch e) ?_
    refine aw_getf K fd_RM_82 d_RM_come_177 rfl rfl rfl ?_
    refine aw_iconst K d_RM_come_180 rfl (v := 1) (by decide) ?_
    refine aw_iadd K d_RM_come_181 rfl ?_
    refine aw_putf K fp_RM_82 d_RM_come_182 rfl rfl (Nat.le_of_ble_eq_true rfl) (am_fit_i _) (w' := [oC 5 [aI x_thrown, aI x_nodes, aI x_room, aI x_states, aI x_kinds, aI x_rules, aR 1, aR 2, aR 3, aR 4, aR 5, aR 6, aR 7, aR 8, aI x_numberings, aI (x_wholes + (1 : Int32)), aI x_gone, aI x_steps, aI x_old, aI x_stuck, aI ((-2)), aI x_wholes, aR 9, aR 10, aR 11, aR 12, aR 13, aR 14, aR 15, aR 16, aR 17, aR 18, aI x_same, aI x_at], c1, c2, c3, c4, c5, c6, c7, c8, iC 98304 x_rows, iC 8192 x_order, iC 8192 x_level, iC 8192 x_parent, iC 8192 x_byRule, iC 8192 x_stepsOf, iC 8192 x_alike, c16, c17, iC 12 x_least]) rfl ?_
    exact aw_vret K hr d_RM_come_185 h
set_option maxRecDepth 20000 in
theorem x_RM_begin_0 {X : am_X} {dd bc bs : Nat} (K : am_ok X b_RM_begin R_RM 2 dd) {post : Option am_V → List am_C → Prop} (hr : am_rt X none post) {sp_RM_forget : am_S} {dd_RM_forget : Nat} (c_RM_forget : Con y_RM_forget b_RM_forget 1 none dd_RM_forget 0 0 false sp_RM_forget) (hdd_RM_forget : dd_RM_forget + 1 ≤ dd) {x_thrown x_nodes x_room x_states x_kinds x_rules x_numberings x_wholes x_gone x_steps x_old x_stuck x_answer x_badWhole x_same x_at : Int32} {x_next : Nat → Int32} {c1 c2 c3 c4 c5 c6 c7 c8 c9 c10 c11 c12 c13 c14 c15 c17 c18 : am_C}
    (h : (x_wholes ≤ 0 → sp_RM_forget [aR 0] [oC 5 [aI x_thrown, aI x_nodes, aI x_room, aI x_states, aI x_kinds, aI x_rules, aR 1, aR 2, aR 3, aR 4, aR 5, aR 6, aR 7, aR 8, aI x_numberings, aI x_wholes, aI x_gone, aI x_steps, aI x_old, aI x_stuck, aI x_answer, aI x_badWhole, aR 9, aR 10, aR 11, aR 12, aR 13, aR 14, aR 15, aR 16, aR 17, aR 18, aI x_same, aI x_at], c1, c2, c3, c4, c5, c6, c7, c8, c9, c10, c11, c12, c13, c14, c15, iC 12 x_next, c17, c18] (fun rv w' => AW X 12 [some (aR 0), none] (rv.toList ++ []) w' bc bs)) ∧ (¬ x_wholes ≤ 0 → post none [oC 5 [aI x_thrown, aI x_nodes, aI x_room, aI x_states, aI x_kinds, aI x_rules, aR 1, aR 2, aR 3, aR 4, aR 5, aR 6, aR 7, aR 8, aI x_numberings, aI x_wholes, aI x_gone, aI x_steps, aI x_old, aI x_stuck, aI x_answer, aI x_badWhole, aR 9, aR 10, aR 11, aR 12, aR 13, aR 14, aR 15, aR 16, aR 17, aR 18, aI x_same, aI x_at], c1, c2, c3, c4, c5, c6, c7, c8, c9, c10, c11, c12, c13, c14, c15, iC 12 x_next, c17, c18])) :
    AW X 0 [some (aR 0), none] [] [oC 5 [aI x_thrown, aI x_nodes, aI x_room, aI x_states, aI x_kinds, aI x_rules, aR 1, aR 2, aR 3, aR 4, aR 5, aR 6, aR 7, aR 8, aI x_numberings, aI x_wholes, aI x_gone, aI x_steps, aI x_old, aI x_stuck, aI x_answer, aI x_badWhole, aR 9, aR 10, aR 11, aR 12, aR 13, aR 14, aR 15, aR 16, aR 17, aR 18, aI x_same, aI x_at], c1, c2, c3, c4, c5, c6, c7, c8, c9, c10, c11, c12, c13, c14, c15, iC 12 x_next, c17, c18] bc bs := by
  refine aw_aload_n K d_RM_begin_0 rfl rfl ?_
  refine aw_getf K fd_RM_82 d_RM_begin_1 rfl rfl rfl ?_
  refine aw_if_le K d_RM_begin_4 (t := 8) (by decide) rfl (fun q => ?_) (fun q => ?_)
  · replace h := h.1 q
    refine aw_aload_n K d_RM_begin_8 rfl rfl ?_
    exact aw_callV K c_RM_forget cb_RM_107 ci_RM_forget cs_RM_forget hdd_RM_forget (k := 0) rfl rfl d_RM_begin_9 rfl (av := []) rfl (Nat.le_of_ble_eq_true rfl) h (fun rv w' hF => hF)
  · replace h := h.2 q
    exact aw_vret K hr d_RM_begin_7 h
set_option maxRecDepth 20000 in
theorem x_RM_begin_12 {X : am_X} {dd bc bs : Nat} (K : am_ok X b_RM_begin R_RM 2 dd) {post : Option am_V → List am_C → Prop} (hr : am_rt X none post) {x_thrown x_nodes x_room x_states x_kinds x_rules x_numberings x_wholes x_gone x_steps x_old x_stuck x_answer x_badWhole x_same x_at : Int32} {x_next : Nat → Int32} {c1 c2 c3 c4 c5 c6 c7 c8 c9 c10 c11 c12 c13 c14 c15 c17 c18 : am_C}
    (h : AW X 14 [some (aR 0), some (aI 0)] [] [oC 5 [aI x_thrown, aI x_nodes, aI x_room, aI x_states, aI x_kinds, aI x_rules, aR 1, aR 2, aR 3, aR 4, aR 5, aR 6, aR 7, aR 8, aI x_numberings, aI x_wholes, aI x_gone, aI x_steps, aI x_old, aI x_stuck, aI x_answer, aI x_badWhole, aR 9, aR 10, aR 11, aR 12, aR 13, aR 14, aR 15, aR 16, aR 17, aR 18, aI x_same, aI x_at], c1, c2, c3, c4, c5, c6, c7, c8, c9, c10, c11, c12, c13, c14, c15, iC 12 x_next, c17, c18] bc bs) :
    AW X 12 [some (aR 0), none] [] [oC 5 [aI x_thrown, aI x_nodes, aI x_room, aI x_states, aI x_kinds, aI x_rules, aR 1, aR 2, aR 3, aR 4, aR 5, aR 6, aR 7, aR 8, aI x_numberings, aI x_wholes, aI x_gone, aI x_steps, aI x_old, aI x_stuck, aI x_answer, aI x_badWhole, aR 9, aR 10, aR 11, aR 12, aR 13, aR 14, aR 15, aR 16, aR 17, aR 18, aI x_same, aI x_at], c1, c2, c3, c4, c5, c6, c7, c8, c9, c10, c11, c12, c13, c14, c15, iC 12 x_next, c17, c18] bc bs := by
  refine aw_iconst K d_RM_begin_12 rfl (v := 0) (by decide) ?_
  refine aw_istore_n K d_RM_begin_13 rfl (by decide) (lv' := [some (aR 0), some (aI 0)]) rfl ?_
  exact h
set_option maxRecDepth 20000 in
theorem x_RM_begin_14 {X : am_X} {dd bc bs : Nat} (K : am_ok X b_RM_begin R_RM 2 dd) {post : Option am_V → List am_C → Prop} (hr : am_rt X none post) {sp_RM_form : am_S} {dd_RM_form : Nat} (c_RM_form : Con y_RM_form b_RM_form 4 none dd_RM_form 0 0 false sp_RM_form) (hdd_RM_form : dd_RM_form + 1 ≤ dd) {l1 x_thrown x_nodes x_room x_states x_kinds x_rules x_numberings x_wholes x_gone x_steps x_old x_stuck x_answer x_badWhole x_same x_at : Int32} {x_next : Nat → Int32} {c1 c2 c3 c4 c5 c6 c7 c8 c9 c10 c11 c12 c13 c14 c15 c17 c18 : am_C}
    (h : (12 ≤ l1 → sp_RM_form [aR 0] [oC 5 [aI x_thrown, aI x_nodes, aI x_room, aI x_states, aI x_kinds, aI x_rules, aR 1, aR 2, aR 3, aR 4, aR 5, aR 6, aR 7, aR 8, aI x_numberings, aI x_wholes, aI x_gone, aI x_steps, aI x_old, aI x_stuck, aI x_answer, aI x_badWhole, aR 9, aR 10, aR 11, aR 12, aR 13, aR 14, aR 15, aR 16, aR 17, aR 18, aI x_same, aI x_at], c1, c2, c3, c4, c5, c6, c7, c8, c9, c10, c11, c12, c13, c14, c15, iC 12 x_next, c17, c18] (fun rv w' => AW X 37 [some (aR 0), none] (rv.toList ++ []) w' bc bs)) ∧ (¬ 12 ≤ l1 → vp_in l1 12 ∧ AW X 14 [some (aR 0), some (aI (l1 + 1))] [] [oC 5 [aI x_thrown, aI x_nodes, aI x_room, aI x_states, aI x_kinds, aI x_rules, aR 1, aR 2, aR 3, aR 4, aR 5, aR 6, aR 7, aR 8, aI x_numberings, aI x_wholes, aI x_gone, aI x_steps, aI x_old, aI x_stuck, aI x_answer, aI x_badWhole, aR 9, aR 10, aR 11, aR 12, aR 13, aR 14, aR 15, aR 16, aR 17, aR 18, aI x_same, aI x_at], c1, c2, c3, c4, c5, c6, c7, c8, c9, c10, c11, c12, c13, c14, c15, iC 12 (upd x_next l1.toNatClampNeg 0), c17, c18] bc bs)) :
    AW X 14 [some (aR 0), some (aI l1)] [] [oC 5 [aI x_thrown, aI x_nodes, aI x_room, aI x_states, aI x_kinds, aI x_rules, aR 1, aR 2, aR 3, aR 4, aR 5, aR 6, aR 7, aR 8, aI x_numberings, aI x_wholes, aI x_gone, aI x_steps, aI x_old, aI x_stuck, aI x_answer, aI x_badWhole, aR 9, aR 10, aR 11, aR 12, aR 13, aR 14, aR 15, aR 16, aR 17, aR 18, aI x_same, aI x_at], c1, c2, c3, c4, c5, c6, c7, c8, c9, c10, c11, c12, c13, c14, c15, iC 12 x_next, c17, c18] bc bs := by
  refine aw_iload_n K d_RM_begin_14 rfl rfl ?_
  refine aw_bipush K d_RM_begin_15 rfl (v := 12) (by decide) ?_
  refine aw_icmp_ge K d_RM_begin_17 (t := 33) (by decide) rfl (fun q => ?_) (fun q => ?_)
  · replace h := h.1 q
    refine aw_aload_n K d_RM_begin_33 rfl rfl ?_
    refine aw_less [1] rfl ?_
    exact aw_callV K c_RM_form cb_RM_146 ci_RM_form cs_RM_form hdd_RM_form (k := 0) rfl rfl d_RM_begin_34 rfl (av := []) rfl (Nat.le_of_ble_eq_true rfl) h (fun rv w' hF => hF)
  · replace h := h.2 q
    refine aw_aload_n K d_RM_begin_20 rfl rfl ?_
    refine aw_getf K fd_RM_61 d_RM_begin_21 rfl rfl rfl ?_
    refine aw_iload_n K d_RM_begin_24 rfl rfl ?_
    refine aw_iconst K d_RM_begin_25 rfl (v := 0) (by decide) ?_
    refine aw_iast K d_RM_begin_26 rfl rfl h.1 (w' := [oC 5 [aI x_thrown, aI x_nodes, aI x_room, aI x_states, aI x_kinds, aI x_rules, aR 1, aR 2, aR 3, aR 4, aR 5, aR 6, aR 7, aR 8, aI x_numberings, aI x_wholes, aI x_gone, aI x_steps, aI x_old, aI x_stuck, aI x_answer, aI x_badWhole, aR 9, aR 10, aR 11, aR 12, aR 13, aR 14, aR 15, aR 16, aR 17, aR 18, aI x_same, aI x_at], c1, c2, c3, c4, c5, c6, c7, c8, c9, c10, c11, c12, c13, c14, c15, iC 12 (upd x_next l1.toNatClampNeg 0), c17, c18]) rfl ?_
    replace h := h.2
    refine aw_iinc K d_RM_begin_27 rfl rfl (v := l1 + 1) rfl (by decide) (lv' := [some (aR 0), some (aI (l1 + 1))]) rfl ?_
    refine aw_goto K d_RM_begin_30 (n := 14) (by decide) ?_
    exact h
set_option maxRecDepth 20000 in
theorem x_RM_begin_37 {X : am_X} {dd bc bs : Nat} (K : am_ok X b_RM_begin R_RM 2 dd) {post : Option am_V → List am_C → Prop} (hr : am_rt X none post) {sp_RM_come : am_S} {dd_RM_come : Nat} (c_RM_come : Con y_RM_come b_RM_come 4 none dd_RM_come 0 0 false sp_RM_come) (hdd_RM_come : dd_RM_come + 1 ≤ dd) {x_thrown x_nodes x_room x_states x_kinds x_rules x_numberings x_wholes x_gone x_steps x_old x_stuck x_answer x_badWhole x_same x_at : Int32} {x_next : Nat → Int32} {c1 c2 c3 c4 c5 c6 c7 c8 c9 c10 c11 c12 c13 c14 c15 c17 c18 : am_C}
    (h : sp_RM_come [aR 0, aI ((-1)), aI ((-1))] [oC 5 [aI x_thrown, aI x_nodes, aI x_room, aI x_states, aI x_kinds, aI x_rules, aR 1, aR 2, aR 3, aR 4, aR 5, aR 6, aR 7, aR 8, aI x_numberings, aI x_wholes, aI x_gone, aI x_steps, aI x_old, aI x_stuck, aI x_answer, aI x_badWhole, aR 9, aR 10, aR 11, aR 12, aR 13, aR 14, aR 15, aR 16, aR 17, aR 18, aI x_same, aI 0], c1, c2, c3, c4, c5, c6, c7, c8, c9, c10, c11, c12, c13, c14, c15, iC 12 x_next, c17, c18] (fun rv w' => AW X 48 [none, none] (rv.toList ++ []) w' bc bs)) :
    AW X 37 [some (aR 0), none] [] [oC 5 [aI x_thrown, aI x_nodes, aI x_room, aI x_states, aI x_kinds, aI x_rules, aR 1, aR 2, aR 3, aR 4, aR 5, aR 6, aR 7, aR 8, aI x_numberings, aI x_wholes, aI x_gone, aI x_steps, aI x_old, aI x_stuck, aI x_answer, aI x_badWhole, aR 9, aR 10, aR 11, aR 12, aR 13, aR 14, aR 15, aR 16, aR 17, aR 18, aI x_same, aI x_at], c1, c2, c3, c4, c5, c6, c7, c8, c9, c10, c11, c12, c13, c14, c15, iC 12 x_next, c17, c18] bc bs := by
  refine aw_aload_n K d_RM_begin_37 rfl rfl ?_
  refine aw_iconst K d_RM_begin_38 rfl (v := 0) (by decide) ?_
  refine aw_putf K fp_RM_139 d_RM_begin_39 rfl rfl (Nat.le_of_ble_eq_true rfl) (am_fit_i _) (w' := [oC 5 [aI x_thrown, aI x_nodes, aI x_room, aI x_states, aI x_kinds, aI x_rules, aR 1, aR 2, aR 3, aR 4, aR 5, aR 6, aR 7, aR 8, aI x_numberings, aI x_wholes, aI x_gone, aI x_steps, aI x_old, aI x_stuck, aI x_answer, aI x_badWhole, aR 9, aR 10, aR 11, aR 12, aR 13, aR 14, aR 15, aR 16, aR 17, aR 18, aI x_same, aI 0], c1, c2, c3, c4, c5, c6, c7, c8, c9, c10, c11, c12, c13, c14, c15, iC 12 x_next, c17, c18]) rfl ?_
  refine aw_aload_n K d_RM_begin_42 rfl rfl ?_
  refine aw_iconst K d_RM_begin_43 rfl (v := (-1)) (by decide) ?_
  refine aw_iconst K d_RM_begin_44 rfl (v := (-1)) (by decide) ?_
  refine aw_less [0] rfl ?_
  exact aw_callV K c_RM_come cb_RM_149 ci_RM_come cs_RM_come hdd_RM_come (k := 0) rfl rfl d_RM_begin_45 rfl (av := [aI ((-1)), aI ((-1))]) rfl (Nat.le_of_ble_eq_true rfl) h (fun rv w' hF => hF)
set_option maxRecDepth 20000 in
theorem x_RM_begin_48 {X : am_X} {dd bc bs : Nat} (K : am_ok X b_RM_begin R_RM 2 dd) {post : Option am_V → List am_C → Prop} (hr : am_rt X none post) {x_thrown x_nodes x_room x_states x_kinds x_rules x_numberings x_wholes x_gone x_steps x_old x_stuck x_answer x_badWhole x_same x_at : Int32} {x_next : Nat → Int32} {c1 c2 c3 c4 c5 c6 c7 c8 c9 c10 c11 c12 c13 c14 c15 c17 c18 : am_C}
    (h : post none [oC 5 [aI x_thrown, aI x_nodes, aI x_room, aI x_states, aI x_kinds, aI x_rules, aR 1, aR 2, aR 3, aR 4, aR 5, aR 6, aR 7, aR 8, aI x_numberings, aI x_wholes, aI x_gone, aI x_steps, aI x_old, aI x_stuck, aI x_answer, aI x_badWhole, aR 9, aR 10, aR 11, aR 12, aR 13, aR 14, aR 15, aR 16, aR 17, aR 18, aI x_same, aI x_at], c1, c2, c3, c4, c5, c6, c7, c8, c9, c10, c11, c12, c13, c14, c15, iC 12 x_next, c17, c18]) :
    AW X 48 [none, none] [] [oC 5 [aI x_thrown, aI x_nodes, aI x_room, aI x_states, aI x_kinds, aI x_rules, aR 1, aR 2, aR 3, aR 4, aR 5, aR 6, aR 7, aR 8, aI x_numberings, aI x_wholes, aI x_gone, aI x_steps, aI x_old, aI x_stuck, aI x_answer, aI x_badWhole, aR 9, aR 10, aR 11, aR 12, aR 13, aR 14, aR 15, aR 16, aR 17, aR 18, aI x_same, aI x_at], c1, c2, c3, c4, c5, c6, c7, c8, c9, c10, c11, c12, c13, c14, c15, iC 12 x_next, c17, c18] bc bs := by
  exact aw_vret K hr d_RM_begin_48 h
set_option maxRecDepth 20000 in
theorem x_RM_make_0 {X : am_X} {dd bc bs : Nat} (K : am_ok X b_RM_make R_RM 10 dd) {post : Option am_V → List am_C → Prop} (hr : am_rt X (some .boolean) post) {l1 l2 l3 l4 x_thrown x_nodes x_room x_states x_kinds x_rules x_numberings x_wholes x_gone x_steps x_old x_stuck x_answer x_badWhole x_same x_at : Int32} {x_to x_sentMany x_sentKind x_sentWhom x_rows x_next : Nat → Int32} {c1 c2 c7 c8 c10 c11 c12 c13 c14 c15 c17 c18 : am_C}
    (h : AW X 6 [some (aR 0), some (aI l1), some (aI l2), some (aI l3), some (aI l4), some (aI 0), some (aI 0), none, none, none] [] [oC 5 [aI x_thrown, aI x_nodes, aI x_room, aI x_states, aI x_kinds, aI x_rules, aR 1, aR 2, aR 3, aR 4, aR 5, aR 6, aR 7, aR 8, aI x_numberings, aI x_wholes, aI x_gone, aI x_steps, aI x_old, aI x_stuck, aI x_answer, aI x_badWhole, aR 9, aR 10, aR 11, aR 12, aR 13, aR 14, aR 15, aR 16, aR 17, aR 18, aI x_same, aI x_at], c1, c2, iC 40 x_to, iC 40 x_sentMany, iC 160 x_sentKind, iC 160 x_sentWhom, c7, c8, iC 98304 x_rows, c10, c11, c12, c13, c14, c15, iC 12 x_next, c17, c18] bc bs) :
    AW X 0 [some (aR 0), some (aI l1), some (aI l2), some (aI l3), some (aI l4), none, none, none, none, none] [] [oC 5 [aI x_thrown, aI x_nodes, aI x_room, aI x_states, aI x_kinds, aI x_rules, aR 1, aR 2, aR 3, aR 4, aR 5, aR 6, aR 7, aR 8, aI x_numberings, aI x_wholes, aI x_gone, aI x_steps, aI x_old, aI x_stuck, aI x_answer, aI x_badWhole, aR 9, aR 10, aR 11, aR 12, aR 13, aR 14, aR 15, aR 16, aR 17, aR 18, aI x_same, aI x_at], c1, c2, iC 40 x_to, iC 40 x_sentMany, iC 160 x_sentKind, iC 160 x_sentWhom, c7, c8, iC 98304 x_rows, c10, c11, c12, c13, c14, c15, iC 12 x_next, c17, c18] bc bs := by
  refine aw_iconst K d_RM_make_0 rfl (v := 0) (by decide) ?_
  refine aw_istore K d_RM_make_1 rfl (by decide) (lv' := [some (aR 0), some (aI l1), some (aI l2), some (aI l3), some (aI l4), some (aI 0), none, none, none, none]) rfl ?_
  refine aw_iconst K d_RM_make_3 rfl (v := 0) (by decide) ?_
  refine aw_istore K d_RM_make_4 rfl (by decide) (lv' := [some (aR 0), some (aI l1), some (aI l2), some (aI l3), some (aI l4), some (aI 0), some (aI 0), none, none, none]) rfl ?_
  exact h
set_option maxRecDepth 20000 in
theorem x_RM_make_6 {X : am_X} {dd bc bs : Nat} (K : am_ok X b_RM_make R_RM 10 dd) {post : Option am_V → List am_C → Prop} (hr : am_rt X (some .boolean) post) {l1 l2 l3 l4 l5 l6 x_thrown x_nodes x_room x_states x_kinds x_rules x_numberings x_wholes x_gone x_steps x_old x_stuck x_answer x_badWhole x_same x_at : Int32} {x_to x_sentMany x_sentKind x_sentWhom x_rows x_next : Nat → Int32} {c1 c2 c7 c8 c10 c11 c12 c13 c14 c15 c17 c18 : am_C}
    (h : vp_in l3 40 ∧ ((x_sentMany l3.toNatClampNeg) ≤ l6 → vp_in (((12 : Int32) * l1) + (4 : Int32)) 98304 ∧ (0 ≤ l4 → AW X 73 [some (aR 0), some (aI l1), some (aI l2), some (aI l3), some (aI l4), some (aI l5), none, none, none, none] [aI 1, aI (x_rows (((12 : Int32) * l1) + (4 : Int32)).toNatClampNeg)] [oC 5 [aI x_thrown, aI x_nodes, aI x_room, aI x_states, aI x_kinds, aI x_rules, aR 1, aR 2, aR 3, aR 4, aR 5, aR 6, aR 7, aR 8, aI x_numberings, aI x_wholes, aI x_gone, aI x_steps, aI x_old, aI x_stuck, aI x_answer, aI x_badWhole, aR 9, aR 10, aR 11, aR 12, aR 13, aR 14, aR 15, aR 16, aR 17, aR 18, aI x_same, aI x_at], c1, c2, iC 40 x_to, iC 40 x_sentMany, iC 160 x_sentKind, iC 160 x_sentWhom, c7, c8, iC 98304 x_rows, c10, c11, c12, c13, c14, c15, iC 12 x_next, c17, c18] bc bs) ∧ (¬ 0 ≤ l4 → AW X 73 [some (aR 0), some (aI l1), some (aI l2), some (aI l3), some (aI l4), some (aI l5), none, none, none, none] [aI 0, aI (x_rows (((12 : Int32) * l1) + (4 : Int32)).toNatClampNeg)] [oC 5 [aI x_thrown, aI x_nodes, aI x_room, aI x_states, aI x_kinds, aI x_rules, aR 1, aR 2, aR 3, aR 4, aR 5, aR 6, aR 7, aR 8, aI x_numberings, aI x_wholes, aI x_gone, aI x_steps, aI x_old, aI x_stuck, aI x_answer, aI x_badWhole, aR 9, aR 10, aR 11, aR 12, aR 13, aR 14, aR 15, aR 16, aR 17, aR 18, aI x_same, aI x_at], c1, c2, iC 40 x_to, iC 40 x_sentMany, iC 160 x_sentKind, iC 160 x_sentWhom, c7, c8, iC 98304 x_rows, c10, c11, c12, c13, c14, c15, iC 12 x_next, c17, c18] bc bs)) ∧ (¬ (x_sentMany l3.toNatClampNeg) ≤ l6 → vp_in (((4 : Int32) * l3) + l6) 160 ∧ (¬ (x_sentWhom (((4 : Int32) * l3) + l6).toNatClampNeg) = 0 → AW X 6 [some (aR 0), some (aI l1), some (aI l2), some (aI l3), some (aI l4), some (aI (l5 + (x_nodes - (1 : Int32)))), some (aI (l6 + 1)), none, none, none] [] [oC 5 [aI x_thrown, aI x_nodes, aI x_room, aI x_states, aI x_kinds, aI x_rules, aR 1, aR 2, aR 3, aR 4, aR 5, aR 6, aR 7, aR 8, aI x_numberings, aI x_wholes, aI x_gone, aI x_steps, aI x_old, aI x_stuck, aI x_answer, aI x_badWhole, aR 9, aR 10, aR 11, aR 12, aR 13, aR 14, aR 15, aR 16, aR 17, aR 18, aI x_same, aI x_at], c1, c2, iC 40 x_to, iC 40 x_sentMany, iC 160 x_sentKind, iC 160 x_sentWhom, c7, c8, iC 98304 x_rows, c10, c11, c12, c13, c14, c15, iC 12 x_next, c17, c18] bc bs) ∧ ((x_sentWhom (((4 : Int32) * l3) + l6).toNatClampNeg) = 0 → AW X 6 [some (aR 0), some (aI l1), some (aI l2), some (aI l3), some (aI l4), some (aI (l5 + (1 : Int32))), some (aI (l6 + 1)), none, none, none] [] [oC 5 [aI x_thrown, aI x_nodes, aI x_room, aI x_states, aI x_kinds, aI x_rules, aR 1, aR 2, aR 3, aR 4, aR 5, aR 6, aR 7, aR 8, aI x_numberings, aI x_wholes, aI x_gone, aI x_steps, aI x_old, aI x_stuck, aI x_answer, aI x_badWhole, aR 9, aR 10, aR 11, aR 12, aR 13, aR 14, aR 15, aR 16, aR 17, aR 18, aI x_same, aI x_at], c1, c2, iC 40 x_to, iC 40 x_sentMany, iC 160 x_sentKind, iC 160 x_sentWhom, c7, c8, iC 98304 x_rows, c10, c11, c12, c13, c14, c15, iC 12 x_next, c17, c18] bc bs))) :
    AW X 6 [some (aR 0), some (aI l1), some (aI l2), some (aI l3), some (aI l4), some (aI l5), some (aI l6), none, none, none] [] [oC 5 [aI x_thrown, aI x_nodes, aI x_room, aI x_states, aI x_kinds, aI x_rules, aR 1, aR 2, aR 3, aR 4, aR 5, aR 6, aR 7, aR 8, aI x_numberings, aI x_wholes, aI x_gone, aI x_steps, aI x_old, aI x_stuck, aI x_answer, aI x_badWhole, aR 9, aR 10, aR 11, aR 12, aR 13, aR 14, aR 15, aR 16, aR 17, aR 18, aI x_same, aI x_at], c1, c2, iC 40 x_to, iC 40 x_sentMany, iC 160 x_sentKind, iC 160 x_sentWhom, c7, c8, iC 98304 x_rows, c10, c11, c12, c13, c14, c15, iC 12 x_next, c17, c18] bc bs := by
  refine aw_iload K d_RM_make_6 rfl rfl ?_
  refine aw_aload_n K d_RM_make_8 rfl rfl ?_
  refine aw_getf K fd_RM_23 d_RM_make_9 rfl rfl rfl ?_
  refine aw_iload_n K d_RM_make_12 rfl rfl ?_
  refine aw_iald K d_RM_make_13 rfl rfl h.1 ?_
  replace h := h.2
  refine aw_icmp_ge K d_RM_make_14 (t := 52) (by decide) rfl (fun q => ?_) (fun q => ?_)
  · replace h := h.1 q
    refine aw_aload_n K d_RM_make_52 rfl rfl ?_
    refine aw_getf K fd_RM_40 d_RM_make_53 rfl rfl rfl ?_
    refine aw_bipush K d_RM_make_56 rfl (v := 12) (by decide) ?_
    refine aw_iload_n K d_RM_make_58 rfl rfl ?_
    refine aw_imul K d_RM_make_59 rfl ?_
    refine aw_iconst K d_RM_make_60 rfl (v := 4) (by decide) ?_
    refine aw_iadd K d_RM_make_61 rfl ?_
    refine aw_iald K d_RM_make_62 rfl rfl h.1 ?_
    replace h := h.2
    refine aw_iload K d_RM_make_63 rfl rfl ?_
    refine aw_if_ge K d_RM_make_65 (t := 72) (by decide) rfl (fun q => ?_) (fun q => ?_)
    · replace h := h.1 q
      refine aw_iconst K d_RM_make_72 rfl (v := 1) (by decide) ?_
      refine aw_less [6] rfl ?_
      exact h
    · replace h := h.2 q
      refine aw_iconst K d_RM_make_68 rfl (v := 0) (by decide) ?_
      refine aw_goto K d_RM_make_69 (n := 73) (by decide) ?_
      refine aw_less [6] rfl ?_
      exact h
  · replace h := h.2 q
    refine aw_iload K d_RM_make_17 rfl rfl ?_
    refine aw_aload_n K d_RM_make_19 rfl rfl ?_
    refine aw_getf K fd_RM_29 d_RM_make_20 rfl rfl rfl ?_
    refine aw_iconst K d_RM_make_23 rfl (v := 4) (by decide) ?_
    refine aw_iload_n K d_RM_make_24 rfl rfl ?_
    refine aw_imul K d_RM_make_25 rfl ?_
    refine aw_iload K d_RM_make_26 rfl rfl ?_
    refine aw_iadd K d_RM_make_28 rfl ?_
    refine aw_iald K d_RM_make_29 rfl rfl h.1 ?_
    replace h := h.2
    refine aw_if_ne K d_RM_make_30 (t := 37) (by decide) rfl (fun q => ?_) (fun q => ?_)
    · replace h := h.1 q
      refine aw_aload_n K d_RM_make_37 rfl rfl ?_
      refine aw_getf K fd_RM_70 d_RM_make_38 rfl rfl rfl ?_
      refine aw_iconst K d_RM_make_41 rfl (v := 1) (by decide) ?_
      refine aw_isub K d_RM_make_42 rfl ?_
      refine aw_iadd K d_RM_make_43 rfl ?_
      refine aw_istore K d_RM_make_44 rfl (by decide) (lv' := [some (aR 0), some (aI l1), some (aI l2), some (aI l3), some (aI l4), some (aI (l5 + (x_nodes - (1 : Int32)))), some (aI l6), none, none, none]) rfl ?_
      refine aw_iinc K d_RM_make_46 rfl rfl (v := l6 + 1) rfl (by decide) (lv' := [some (aR 0), some (aI l1), some (aI l2), some (aI l3), some (aI l4), some (aI (l5 + (x_nodes - (1 : Int32)))), some (aI (l6 + 1)), none, none, none]) rfl ?_
      refine aw_goto K d_RM_make_49 (n := 6) (by decide) ?_
      exact h
    · replace h := h.2 q
      refine aw_iconst K d_RM_make_33 rfl (v := 1) (by decide) ?_
      refine aw_goto K d_RM_make_34 (n := 43) (by decide) ?_
      refine aw_iadd K d_RM_make_43 rfl ?_
      refine aw_istore K d_RM_make_44 rfl (by decide) (lv' := [some (aR 0), some (aI l1), some (aI l2), some (aI l3), some (aI l4), some (aI (l5 + (1 : Int32))), some (aI l6), none, none, none]) rfl ?_
      refine aw_iinc K d_RM_make_46 rfl rfl (v := l6 + 1) rfl (by decide) (lv' := [some (aR 0), some (aI l1), some (aI l2), some (aI l3), some (aI l4), some (aI (l5 + (1 : Int32))), some (aI (l6 + 1)), none, none, none]) rfl ?_
      refine aw_goto K d_RM_make_49 (n := 6) (by decide) ?_
      exact h
set_option maxRecDepth 20000 in
theorem x_RM_make_73 {X : am_X} {dd bc bs : Nat} (K : am_ok X b_RM_make R_RM 10 dd) {post : Option am_V → List am_C → Prop} (hr : am_rt X (some .boolean) post) {l1 l2 l3 l4 l5 s0 s1 x_thrown x_nodes x_room x_states x_kinds x_rules x_numberings x_wholes x_gone x_steps x_old x_stuck x_answer x_badWhole x_same x_at : Int32} {x_to x_sentMany x_sentKind x_sentWhom x_rows x_next : Nat → Int32} {c1 c2 c7 c8 c10 c11 c12 c13 c14 c15 c17 c18 : am_C}
    (h : (((s1 - s0) + l5) ≤ 7 → AW X 87 [some (aR 0), some (aI l1), some (aI l2), some (aI l3), some (aI l4), none, some (aI 0), none, none, none] [] [oC 5 [aI x_thrown, aI x_nodes, aI x_room, aI x_states, aI x_kinds, aI x_rules, aR 1, aR 2, aR 3, aR 4, aR 5, aR 6, aR 7, aR 8, aI x_numberings, aI x_wholes, aI x_gone, aI x_steps, aI x_old, aI x_stuck, aI x_answer, aI x_badWhole, aR 9, aR 10, aR 11, aR 12, aR 13, aR 14, aR 15, aR 16, aR 17, aR 18, aI x_same, aI x_at], c1, c2, iC 40 x_to, iC 40 x_sentMany, iC 160 x_sentKind, iC 160 x_sentWhom, c7, c8, iC 98304 x_rows, c10, c11, c12, c13, c14, c15, iC 12 x_next, c17, c18] bc bs) ∧ (¬ ((s1 - s0) + l5) ≤ 7 → post (some (aI 0)) [oC 5 [aI x_thrown, aI x_nodes, aI x_room, aI x_states, aI x_kinds, aI x_rules, aR 1, aR 2, aR 3, aR 4, aR 5, aR 6, aR 7, aR 8, aI x_numberings, aI x_wholes, aI x_gone, aI x_steps, aI x_old, aI x_stuck, aI x_answer, aI x_badWhole, aR 9, aR 10, aR 11, aR 12, aR 13, aR 14, aR 15, aR 16, aR 17, aR 18, aI x_same, aI x_at], c1, c2, iC 40 x_to, iC 40 x_sentMany, iC 160 x_sentKind, iC 160 x_sentWhom, c7, c8, iC 98304 x_rows, c10, c11, c12, c13, c14, c15, iC 12 x_next, c17, c18])) :
    AW X 73 [some (aR 0), some (aI l1), some (aI l2), some (aI l3), some (aI l4), some (aI l5), none, none, none, none] [aI s0, aI s1] [oC 5 [aI x_thrown, aI x_nodes, aI x_room, aI x_states, aI x_kinds, aI x_rules, aR 1, aR 2, aR 3, aR 4, aR 5, aR 6, aR 7, aR 8, aI x_numberings, aI x_wholes, aI x_gone, aI x_steps, aI x_old, aI x_stuck, aI x_answer, aI x_badWhole, aR 9, aR 10, aR 11, aR 12, aR 13, aR 14, aR 15, aR 16, aR 17, aR 18, aI x_same, aI x_at], c1, c2, iC 40 x_to, iC 40 x_sentMany, iC 160 x_sentKind, iC 160 x_sentWhom, c7, c8, iC 98304 x_rows, c10, c11, c12, c13, c14, c15, iC 12 x_next, c17, c18] bc bs := by
  refine aw_isub K d_RM_make_73 rfl ?_
  refine aw_iload K d_RM_make_74 rfl rfl ?_
  refine aw_iadd K d_RM_make_76 rfl ?_
  refine aw_bipush K d_RM_make_77 rfl (v := 7) (by decide) ?_
  refine aw_icmp_le K d_RM_make_79 (t := 84) (by decide) rfl (fun q => ?_) (fun q => ?_)
  · replace h := h.1 q
    refine aw_iconst K d_RM_make_84 rfl (v := 0) (by decide) ?_
    refine aw_istore K d_RM_make_85 rfl (by decide) (lv' := [some (aR 0), some (aI l1), some (aI l2), some (aI l3), some (aI l4), some (aI l5), some (aI 0), none, none, none]) rfl ?_
    refine aw_less [5] rfl ?_
    exact h
  · replace h := h.2 q
    refine aw_iconst K d_RM_make_82 rfl (v := 0) (by decide) ?_
    exact aw_zret K hr d_RM_make_83 (Or.inl rfl) h
set_option maxRecDepth 20000 in
theorem x_RM_make_87 {X : am_X} {dd bc bs : Nat} (K : am_ok X b_RM_make R_RM 10 dd) {post : Option am_V → List am_C → Prop} (hr : am_rt X (some .boolean) post) {l1 l2 l3 l4 l6 x_thrown x_nodes x_room x_states x_kinds x_rules x_numberings x_wholes x_gone x_steps x_old x_stuck x_answer x_badWhole x_same x_at : Int32} {x_to x_sentMany x_sentKind x_sentWhom x_rows x_next : Nat → Int32} {c1 c2 c7 c8 c10 c11 c12 c13 c14 c15 c17 c18 : am_C}
    (h : (4 ≤ l6 → vp_in l3 40 ∧ vp_in l2 12 ∧ (0 ≤ l4 → AW X 152 [some (aR 0), some (aI l1), some (aI l2), some (aI l3), some (aI l4), none, some (aI 0), some (aI 0), none, none] [] [oC 5 [aI x_thrown, aI x_nodes, aI x_room, aI x_states, aI x_kinds, aI x_rules, aR 1, aR 2, aR 3, aR 4, aR 5, aR 6, aR 7, aR 8, aI x_numberings, aI x_wholes, aI x_gone, aI x_steps, aI x_old, aI x_stuck, aI x_answer, aI x_badWhole, aR 9, aR 10, aR 11, aR 12, aR 13, aR 14, aR 15, aR 16, aR 17, aR 18, aI x_same, aI x_at], c1, c2, iC 40 x_to, iC 40 x_sentMany, iC 160 x_sentKind, iC 160 x_sentWhom, c7, c8, iC 98304 x_rows, c10, c11, c12, c13, c14, c15, iC 12 (upd (upd x_next l2.toNatClampNeg (x_to l3.toNatClampNeg)) (4 : Int32).toNatClampNeg 0), c17, c18] bc bs) ∧ (¬ 0 ≤ l4 → AW X 152 [some (aR 0), some (aI l1), some (aI l2), some (aI l3), some (aI l4), none, some (aI 1), some (aI 0), none, none] [] [oC 5 [aI x_thrown, aI x_nodes, aI x_room, aI x_states, aI x_kinds, aI x_rules, aR 1, aR 2, aR 3, aR 4, aR 5, aR 6, aR 7, aR 8, aI x_numberings, aI x_wholes, aI x_gone, aI x_steps, aI x_old, aI x_stuck, aI x_answer, aI x_badWhole, aR 9, aR 10, aR 11, aR 12, aR 13, aR 14, aR 15, aR 16, aR 17, aR 18, aI x_same, aI x_at], c1, c2, iC 40 x_to, iC 40 x_sentMany, iC 160 x_sentKind, iC 160 x_sentWhom, c7, c8, iC 98304 x_rows, c10, c11, c12, c13, c14, c15, iC 12 (upd (upd x_next l2.toNatClampNeg (x_to l3.toNatClampNeg)) (4 : Int32).toNatClampNeg 0), c17, c18] bc bs)) ∧ (¬ 4 ≤ l6 → vp_in (((12 : Int32) * l1) + l6) 98304 ∧ vp_in l6 12 ∧ AW X 87 [some (aR 0), some (aI l1), some (aI l2), some (aI l3), some (aI l4), none, some (aI (l6 + 1)), none, none, none] [] [oC 5 [aI x_thrown, aI x_nodes, aI x_room, aI x_states, aI x_kinds, aI x_rules, aR 1, aR 2, aR 3, aR 4, aR 5, aR 6, aR 7, aR 8, aI x_numberings, aI x_wholes, aI x_gone, aI x_steps, aI x_old, aI x_stuck, aI x_answer, aI x_badWhole, aR 9, aR 10, aR 11, aR 12, aR 13, aR 14, aR 15, aR 16, aR 17, aR 18, aI x_same, aI x_at], c1, c2, iC 40 x_to, iC 40 x_sentMany, iC 160 x_sentKind, iC 160 x_sentWhom, c7, c8, iC 98304 x_rows, c10, c11, c12, c13, c14, c15, iC 12 (upd x_next l6.toNatClampNeg (x_rows (((12 : Int32) * l1) + l6).toNatClampNeg)), c17, c18] bc bs)) :
    AW X 87 [some (aR 0), some (aI l1), some (aI l2), some (aI l3), some (aI l4), none, some (aI l6), none, none, none] [] [oC 5 [aI x_thrown, aI x_nodes, aI x_room, aI x_states, aI x_kinds, aI x_rules, aR 1, aR 2, aR 3, aR 4, aR 5, aR 6, aR 7, aR 8, aI x_numberings, aI x_wholes, aI x_gone, aI x_steps, aI x_old, aI x_stuck, aI x_answer, aI x_badWhole, aR 9, aR 10, aR 11, aR 12, aR 13, aR 14, aR 15, aR 16, aR 17, aR 18, aI x_same, aI x_at], c1, c2, iC 40 x_to, iC 40 x_sentMany, iC 160 x_sentKind, iC 160 x_sentWhom, c7, c8, iC 98304 x_rows, c10, c11, c12, c13, c14, c15, iC 12 x_next, c17, c18] bc bs := by
  refine aw_iload K d_RM_make_87 rfl rfl ?_
  refine aw_iconst K d_RM_make_89 rfl (v := 4) (by decide) ?_
  refine aw_icmp_ge K d_RM_make_90 (t := 118) (by decide) rfl (fun q => ?_) (fun q => ?_)
  · replace h := h.1 q
    refine aw_aload_n K d_RM_make_118 rfl rfl ?_
    refine aw_getf K fd_RM_61 d_RM_make_119 rfl rfl rfl ?_
    refine aw_iload_n K d_RM_make_122 rfl rfl ?_
    refine aw_aload_n K d_RM_make_123 rfl rfl ?_
    refine aw_getf K fd_RM_20 d_RM_make_124 rfl rfl rfl ?_
    refine aw_iload_n K d_RM_make_127 rfl rfl ?_
    refine aw_iald K d_RM_make_128 rfl rfl h.1 ?_
    replace h := h.2
    refine aw_iast K d_RM_make_129 rfl rfl h.1 (w' := [oC 5 [aI x_thrown, aI x_nodes, aI x_room, aI x_states, aI x_kinds, aI x_rules, aR 1, aR 2, aR 3, aR 4, aR 5, aR 6, aR 7, aR 8, aI x_numberings, aI x_wholes, aI x_gone, aI x_steps, aI x_old, aI x_stuck, aI x_answer, aI x_badWhole, aR 9, aR 10, aR 11, aR 12, aR 13, aR 14, aR 15, aR 16, aR 17, aR 18, aI x_same, aI x_at], c1, c2, iC 40 x_to, iC 40 x_sentMany, iC 160 x_sentKind, iC 160 x_sentWhom, c7, c8, iC 98304 x_rows, c10, c11, c12, c13, c14, c15, iC 12 (upd x_next l2.toNatClampNeg (x_to l3.toNatClampNeg)), c17, c18]) rfl ?_
    replace h := h.2
    refine aw_aload_n K d_RM_make_130 rfl rfl ?_
    refine aw_getf K fd_RM_61 d_RM_make_131 rfl rfl rfl ?_
    refine aw_iconst K d_RM_make_134 rfl (v := 4) (by decide) ?_
    refine aw_iconst K d_RM_make_135 rfl (v := 0) (by decide) ?_
    refine aw_iast K d_RM_make_136 rfl rfl (vp_in_nI (n := 4) (by decide) (by decide)) (w' := [oC 5 [aI x_thrown, aI x_nodes, aI x_room, aI x_states, aI x_kinds, aI x_rules, aR 1, aR 2, aR 3, aR 4, aR 5, aR 6, aR 7, aR 8, aI x_numberings, aI x_wholes, aI x_gone, aI x_steps, aI x_old, aI x_stuck, aI x_answer, aI x_badWhole, aR 9, aR 10, aR 11, aR 12, aR 13, aR 14, aR 15, aR 16, aR 17, aR 18, aI x_same, aI x_at], c1, c2, iC 40 x_to, iC 40 x_sentMany, iC 160 x_sentKind, iC 160 x_sentWhom, c7, c8, iC 98304 x_rows, c10, c11, c12, c13, c14, c15, iC 12 (upd (upd x_next l2.toNatClampNeg (x_to l3.toNatClampNeg)) (4 : Int32).toNatClampNeg 0), c17, c18]) rfl ?_
    refine aw_iload K d_RM_make_137 rfl rfl ?_
    refine aw_if_ge K d_RM_make_139 (t := 146) (by decide) rfl (fun q => ?_) (fun q => ?_)
    · replace h := h.1 q
      refine aw_iconst K d_RM_make_146 rfl (v := 0) (by decide) ?_
      refine aw_istore K d_RM_make_147 rfl (by decide) (lv' := [some (aR 0), some (aI l1), some (aI l2), some (aI l3), some (aI l4), none, some (aI 0), none, none, none]) rfl ?_
      refine aw_iconst K d_RM_make_149 rfl (v := 0) (by decide) ?_
      refine aw_istore K d_RM_make_150 rfl (by decide) (lv' := [some (aR 0), some (aI l1), some (aI l2), some (aI l3), some (aI l4), none, some (aI 0), some (aI 0), none, none]) rfl ?_
      exact h
    · replace h := h.2 q
      refine aw_iconst K d_RM_make_142 rfl (v := 1) (by decide) ?_
      refine aw_goto K d_RM_make_143 (n := 147) (by decide) ?_
      refine aw_istore K d_RM_make_147 rfl (by decide) (lv' := [some (aR 0), some (aI l1), some (aI l2), some (aI l3), some (aI l4), none, some (aI 1), none, none, none]) rfl ?_
      refine aw_iconst K d_RM_make_149 rfl (v := 0) (by decide) ?_
      refine aw_istore K d_RM_make_150 rfl (by decide) (lv' := [some (aR 0), some (aI l1), some (aI l2), some (aI l3), some (aI l4), none, some (aI 1), some (aI 0), none, none]) rfl ?_
      exact h
  · replace h := h.2 q
    refine aw_aload_n K d_RM_make_93 rfl rfl ?_
    refine aw_getf K fd_RM_61 d_RM_make_94 rfl rfl rfl ?_
    refine aw_iload K d_RM_make_97 rfl rfl ?_
    refine aw_aload_n K d_RM_make_99 rfl rfl ?_
    refine aw_getf K fd_RM_40 d_RM_make_100 rfl rfl rfl ?_
    refine aw_bipush K d_RM_make_103 rfl (v := 12) (by decide) ?_
    refine aw_iload_n K d_RM_make_105 rfl rfl ?_
    refine aw_imul K d_RM_make_106 rfl ?_
    refine aw_iload K d_RM_make_107 rfl rfl ?_
    refine aw_iadd K d_RM_make_109 rfl ?_
    refine aw_iald K d_RM_make_110 rfl rfl h.1 ?_
    replace h := h.2
    refine aw_iast K d_RM_make_111 rfl rfl h.1 (w' := [oC 5 [aI x_thrown, aI x_nodes, aI x_room, aI x_states, aI x_kinds, aI x_rules, aR 1, aR 2, aR 3, aR 4, aR 5, aR 6, aR 7, aR 8, aI x_numberings, aI x_wholes, aI x_gone, aI x_steps, aI x_old, aI x_stuck, aI x_answer, aI x_badWhole, aR 9, aR 10, aR 11, aR 12, aR 13, aR 14, aR 15, aR 16, aR 17, aR 18, aI x_same, aI x_at], c1, c2, iC 40 x_to, iC 40 x_sentMany, iC 160 x_sentKind, iC 160 x_sentWhom, c7, c8, iC 98304 x_rows, c10, c11, c12, c13, c14, c15, iC 12 (upd x_next l6.toNatClampNeg (x_rows (((12 : Int32) * l1) + l6).toNatClampNeg)), c17, c18]) rfl ?_
    replace h := h.2
    refine aw_iinc K d_RM_make_112 rfl rfl (v := l6 + 1) rfl (by decide) (lv' := [some (aR 0), some (aI l1), some (aI l2), some (aI l3), some (aI l4), none, some (aI (l6 + 1)), none, none, none]) rfl ?_
    refine aw_goto K d_RM_make_115 (n := 87) (by decide) ?_
    exact h
set_option maxRecDepth 20000 in
theorem x_RM_make_152 {X : am_X} {dd bc bs : Nat} (K : am_ok X b_RM_make R_RM 10 dd) {post : Option am_V → List am_C → Prop} (hr : am_rt X (some .boolean) post) {l1 l2 l3 l4 l6 l7 x_thrown x_nodes x_room x_states x_kinds x_rules x_numberings x_wholes x_gone x_steps x_old x_stuck x_answer x_badWhole x_same x_at : Int32} {x_to x_sentMany x_sentKind x_sentWhom x_rows x_next : Nat → Int32} {c1 c2 c7 c8 c10 c11 c12 c13 c14 c15 c17 c18 : am_C}
    (h : vp_in (((12 : Int32) * l1) + (4 : Int32)) 98304 ∧ ((x_rows (((12 : Int32) * l1) + (4 : Int32)).toNatClampNeg) ≤ l7 → AW X 221 [some (aR 0), none, some (aI l2), some (aI l3), some (aI l4), none, none, some (aI 0), none, none] [] [oC 5 [aI x_thrown, aI x_nodes, aI x_room, aI x_states, aI x_kinds, aI x_rules, aR 1, aR 2, aR 3, aR 4, aR 5, aR 6, aR 7, aR 8, aI x_numberings, aI x_wholes, aI x_gone, aI x_steps, aI x_old, aI x_stuck, aI x_answer, aI x_badWhole, aR 9, aR 10, aR 11, aR 12, aR 13, aR 14, aR 15, aR 16, aR 17, aR 18, aI x_same, aI x_at], c1, c2, iC 40 x_to, iC 40 x_sentMany, iC 160 x_sentKind, iC 160 x_sentWhom, c7, c8, iC 98304 x_rows, c10, c11, c12, c13, c14, c15, iC 12 x_next, c17, c18] bc bs) ∧ (¬ (x_rows (((12 : Int32) * l1) + (4 : Int32)).toNatClampNeg) ≤ l7 → vp_in ((((12 : Int32) * l1) + (5 : Int32)) + l7) 98304 ∧ (¬ l6 = 0 → AW X 202 [some (aR 0), some (aI l1), some (aI l2), some (aI l3), some (aI l4), none, some (aI l6), some (aI l7), some (aI (x_rows ((((12 : Int32) * l1) + (5 : Int32)) + l7).toNatClampNeg)), none] [] [oC 5 [aI x_thrown, aI x_nodes, aI x_room, aI x_states, aI x_kinds, aI x_rules, aR 1, aR 2, aR 3, aR 4, aR 5, aR 6, aR 7, aR 8, aI x_numberings, aI x_wholes, aI x_gone, aI x_steps, aI x_old, aI x_stuck, aI x_answer, aI x_badWhole, aR 9, aR 10, aR 11, aR 12, aR 13, aR 14, aR 15, aR 16, aR 17, aR 18, aI x_same, aI x_at], c1, c2, iC 40 x_to, iC 40 x_sentMany, iC 160 x_sentKind, iC 160 x_sentWhom, c7, c8, iC 98304 x_rows, c10, c11, c12, c13, c14, c15, iC 12 x_next, c17, c18] bc bs) ∧ (l6 = 0 → (¬ (x_rows ((((12 : Int32) * l1) + (5 : Int32)) + l7).toNatClampNeg) = l4 → AW X 202 [some (aR 0), some (aI l1), some (aI l2), some (aI l3), some (aI l4), none, some (aI l6), some (aI l7), some (aI (x_rows ((((12 : Int32) * l1) + (5 : Int32)) + l7).toNatClampNeg)), none] [] [oC 5 [aI x_thrown, aI x_nodes, aI x_room, aI x_states, aI x_kinds, aI x_rules, aR 1, aR 2, aR 3, aR 4, aR 5, aR 6, aR 7, aR 8, aI x_numberings, aI x_wholes, aI x_gone, aI x_steps, aI x_old, aI x_stuck, aI x_answer, aI x_badWhole, aR 9, aR 10, aR 11, aR 12, aR 13, aR 14, aR 15, aR 16, aR 17, aR 18, aI x_same, aI x_at], c1, c2, iC 40 x_to, iC 40 x_sentMany, iC 160 x_sentKind, iC 160 x_sentWhom, c7, c8, iC 98304 x_rows, c10, c11, c12, c13, c14, c15, iC 12 x_next, c17, c18] bc bs) ∧ ((x_rows ((((12 : Int32) * l1) + (5 : Int32)) + l7).toNatClampNeg) = l4 → AW X 212 [some (aR 0), some (aI l1), some (aI l2), some (aI l3), some (aI l4), none, some (aI 1), some (aI l7), none, none] [] [oC 5 [aI x_thrown, aI x_nodes, aI x_room, aI x_states, aI x_kinds, aI x_rules, aR 1, aR 2, aR 3, aR 4, aR 5, aR 6, aR 7, aR 8, aI x_numberings, aI x_wholes, aI x_gone, aI x_steps, aI x_old, aI x_stuck, aI x_answer, aI x_badWhole, aR 9, aR 10, aR 11, aR 12, aR 13, aR 14, aR 15, aR 16, aR 17, aR 18, aI x_same, aI x_at], c1, c2, iC 40 x_to, iC 40 x_sentMany, iC 160 x_sentKind, iC 160 x_sentWhom, c7, c8, iC 98304 x_rows, c10, c11, c12, c13, c14, c15, iC 12 x_next, c17, c18] bc bs)))) :
    AW X 152 [some (aR 0), some (aI l1), some (aI l2), some (aI l3), some (aI l4), none, some (aI l6), some (aI l7), none, none] [] [oC 5 [aI x_thrown, aI x_nodes, aI x_room, aI x_states, aI x_kinds, aI x_rules, aR 1, aR 2, aR 3, aR 4, aR 5, aR 6, aR 7, aR 8, aI x_numberings, aI x_wholes, aI x_gone, aI x_steps, aI x_old, aI x_stuck, aI x_answer, aI x_badWhole, aR 9, aR 10, aR 11, aR 12, aR 13, aR 14, aR 15, aR 16, aR 17, aR 18, aI x_same, aI x_at], c1, c2, iC 40 x_to, iC 40 x_sentMany, iC 160 x_sentKind, iC 160 x_sentWhom, c7, c8, iC 98304 x_rows, c10, c11, c12, c13, c14, c15, iC 12 x_next, c17, c18] bc bs := by
  refine aw_iload K d_RM_make_152 rfl rfl ?_
  refine aw_aload_n K d_RM_make_154 rfl rfl ?_
  refine aw_getf K fd_RM_40 d_RM_make_155 rfl rfl rfl ?_
  refine aw_bipush K d_RM_make_158 rfl (v := 12) (by decide) ?_
  refine aw_iload_n K d_RM_make_160 rfl rfl ?_
  refine aw_imul K d_RM_make_161 rfl ?_
  refine aw_iconst K d_RM_make_162 rfl (v := 4) (by decide) ?_
  refine aw_iadd K d_RM_make_163 rfl ?_
  refine aw_iald K d_RM_make_164 rfl rfl h.1 ?_
  replace h := h.2
  refine aw_icmp_ge K d_RM_make_165 (t := 218) (by decide) rfl (fun q => ?_) (fun q => ?_)
  · replace h := h.1 q
    refine aw_iconst K d_RM_make_218 rfl (v := 0) (by decide) ?_
    refine aw_istore K d_RM_make_219 rfl (by decide) (lv' := [some (aR 0), some (aI l1), some (aI l2), some (aI l3), some (aI l4), none, some (aI l6), some (aI 0), none, none]) rfl ?_
    refine aw_less [1, 6] rfl ?_
    exact h
  · replace h := h.2 q
    refine aw_aload_n K d_RM_make_168 rfl rfl ?_
    refine aw_getf K fd_RM_40 d_RM_make_169 rfl rfl rfl ?_
    refine aw_bipush K d_RM_make_172 rfl (v := 12) (by decide) ?_
    refine aw_iload_n K d_RM_make_174 rfl rfl ?_
    refine aw_imul K d_RM_make_175 rfl ?_
    refine aw_iconst K d_RM_make_176 rfl (v := 5) (by decide) ?_
    refine aw_iadd K d_RM_make_177 rfl ?_
    refine aw_iload K d_RM_make_178 rfl rfl ?_
    refine aw_iadd K d_RM_make_180 rfl ?_
    refine aw_iald K d_RM_make_181 rfl rfl h.1 ?_
    replace h := h.2
    refine aw_istore K d_RM_make_182 rfl (by decide) (lv' := [some (aR 0), some (aI l1), some (aI l2), some (aI l3), some (aI l4), none, some (aI l6), some (aI l7), some (aI (x_rows ((((12 : Int32) * l1) + (5 : Int32)) + l7).toNatClampNeg)), none]) rfl ?_
    refine aw_iload K d_RM_make_184 rfl rfl ?_
    refine aw_if_ne K d_RM_make_186 (t := 202) (by decide) rfl (fun q => ?_) (fun q => ?_)
    · replace h := h.1 q
      exact h
    · replace h := h.2 q
      refine aw_iload K d_RM_make_189 rfl rfl ?_
      refine aw_iload K d_RM_make_191 rfl rfl ?_
      refine aw_icmp_ne K d_RM_make_193 (t := 202) (by decide) rfl (fun q => ?_) (fun q => ?_)
      · replace h := h.1 q
        exact h
      · replace h := h.2 q
        refine aw_iconst K d_RM_make_196 rfl (v := 1) (by decide) ?_
        refine aw_istore K d_RM_make_197 rfl (by decide) (lv' := [some (aR 0), some (aI l1), some (aI l2), some (aI l3), some (aI l4), none, some (aI 1), some (aI l7), some (aI (x_rows ((((12 : Int32) * l1) + (5 : Int32)) + l7).toNatClampNeg)), none]) rfl ?_
        refine aw_goto K d_RM_make_199 (n := 212) (by decide) ?_
        refine aw_less [8] rfl ?_
        exact h
set_option maxRecDepth 20000 in
theorem x_RM_make_202 {X : am_X} {dd bc bs : Nat} (K : am_ok X b_RM_make R_RM 10 dd) {post : Option am_V → List am_C → Prop} (hr : am_rt X (some .boolean) post) {sp_RM_add_16 : am_S} {dd_RM_add_16 : Nat} (c_RM_add_16 : Con y_RM_add b_RM_add 5 none dd_RM_add_16 0 0 false sp_RM_add_16) (hdd_RM_add_16 : dd_RM_add_16 + 1 ≤ dd) {l1 l2 l3 l4 l6 l7 l8 x_thrown x_nodes x_room x_states x_kinds x_rules x_numberings x_wholes x_gone x_steps x_old x_stuck x_answer x_badWhole x_same x_at : Int32} {x_to x_sentMany x_sentKind x_sentWhom x_rows x_next : Nat → Int32} {c1 c2 c7 c8 c10 c11 c12 c13 c14 c15 c17 c18 : am_C}
    (h : sp_RM_add_16 [aR 0, aR 16, aI l8] [oC 5 [aI x_thrown, aI x_nodes, aI x_room, aI x_states, aI x_kinds, aI x_rules, aR 1, aR 2, aR 3, aR 4, aR 5, aR 6, aR 7, aR 8, aI x_numberings, aI x_wholes, aI x_gone, aI x_steps, aI x_old, aI x_stuck, aI x_answer, aI x_badWhole, aR 9, aR 10, aR 11, aR 12, aR 13, aR 14, aR 15, aR 16, aR 17, aR 18, aI x_same, aI x_at], c1, c2, iC 40 x_to, iC 40 x_sentMany, iC 160 x_sentKind, iC 160 x_sentWhom, c7, c8, iC 98304 x_rows, c10, c11, c12, c13, c14, c15, iC 12 x_next, c17, c18] (fun rv w' => AW X 212 [some (aR 0), some (aI l1), some (aI l2), some (aI l3), some (aI l4), none, some (aI l6), some (aI l7), none, none] (rv.toList ++ []) w' bc bs)) :
    AW X 202 [some (aR 0), some (aI l1), some (aI l2), some (aI l3), some (aI l4), none, some (aI l6), some (aI l7), some (aI l8), none] [] [oC 5 [aI x_thrown, aI x_nodes, aI x_room, aI x_states, aI x_kinds, aI x_rules, aR 1, aR 2, aR 3, aR 4, aR 5, aR 6, aR 7, aR 8, aI x_numberings, aI x_wholes, aI x_gone, aI x_steps, aI x_old, aI x_stuck, aI x_answer, aI x_badWhole, aR 9, aR 10, aR 11, aR 12, aR 13, aR 14, aR 15, aR 16, aR 17, aR 18, aI x_same, aI x_at], c1, c2, iC 40 x_to, iC 40 x_sentMany, iC 160 x_sentKind, iC 160 x_sentWhom, c7, c8, iC 98304 x_rows, c10, c11, c12, c13, c14, c15, iC 12 x_next, c17, c18] bc bs := by
  refine aw_aload_n K d_RM_make_202 rfl rfl ?_
  refine aw_aload_n K d_RM_make_203 rfl rfl ?_
  refine aw_getf K fd_RM_61 d_RM_make_204 rfl rfl rfl ?_
  refine aw_iload K d_RM_make_207 rfl rfl ?_
  refine aw_less [8] rfl ?_
  exact aw_callV K c_RM_add_16 cb_RM_120 ci_RM_add cs_RM_add hdd_RM_add_16 (k := 0) rfl rfl d_RM_make_209 rfl (av := [aR 16, aI l8]) rfl (Nat.le_of_ble_eq_true rfl) h (fun rv w' hF => hF)
set_option maxRecDepth 20000 in
theorem x_RM_make_212 {X : am_X} {dd bc bs : Nat} (K : am_ok X b_RM_make R_RM 10 dd) {post : Option am_V → List am_C → Prop} (hr : am_rt X (some .boolean) post) {l1 l2 l3 l4 l6 l7 x_thrown x_nodes x_room x_states x_kinds x_rules x_numberings x_wholes x_gone x_steps x_old x_stuck x_answer x_badWhole x_same x_at : Int32} {x_to x_sentMany x_sentKind x_sentWhom x_rows x_next : Nat → Int32} {c1 c2 c7 c8 c10 c11 c12 c13 c14 c15 c17 c18 : am_C}
    (h : AW X 152 [some (aR 0), some (aI l1), some (aI l2), some (aI l3), some (aI l4), none, some (aI l6), some (aI (l7 + 1)), none, none] [] [oC 5 [aI x_thrown, aI x_nodes, aI x_room, aI x_states, aI x_kinds, aI x_rules, aR 1, aR 2, aR 3, aR 4, aR 5, aR 6, aR 7, aR 8, aI x_numberings, aI x_wholes, aI x_gone, aI x_steps, aI x_old, aI x_stuck, aI x_answer, aI x_badWhole, aR 9, aR 10, aR 11, aR 12, aR 13, aR 14, aR 15, aR 16, aR 17, aR 18, aI x_same, aI x_at], c1, c2, iC 40 x_to, iC 40 x_sentMany, iC 160 x_sentKind, iC 160 x_sentWhom, c7, c8, iC 98304 x_rows, c10, c11, c12, c13, c14, c15, iC 12 x_next, c17, c18] bc bs) :
    AW X 212 [some (aR 0), some (aI l1), some (aI l2), some (aI l3), some (aI l4), none, some (aI l6), some (aI l7), none, none] [] [oC 5 [aI x_thrown, aI x_nodes, aI x_room, aI x_states, aI x_kinds, aI x_rules, aR 1, aR 2, aR 3, aR 4, aR 5, aR 6, aR 7, aR 8, aI x_numberings, aI x_wholes, aI x_gone, aI x_steps, aI x_old, aI x_stuck, aI x_answer, aI x_badWhole, aR 9, aR 10, aR 11, aR 12, aR 13, aR 14, aR 15, aR 16, aR 17, aR 18, aI x_same, aI x_at], c1, c2, iC 40 x_to, iC 40 x_sentMany, iC 160 x_sentKind, iC 160 x_sentWhom, c7, c8, iC 98304 x_rows, c10, c11, c12, c13, c14, c15, iC 12 x_next, c17, c18] bc bs := by
  refine aw_iinc K d_RM_make_212 rfl rfl (v := l7 + 1) rfl (by decide) (lv' := [some (aR 0), some (aI l1), some (aI l2), some (aI l3), some (aI l4), none, some (aI l6), some (aI (l7 + 1)), none, none]) rfl ?_
  refine aw_goto K d_RM_make_215 (n := 152) (by decide) ?_
  exact h
set_option maxRecDepth 20000 in
theorem x_RM_make_221 {X : am_X} {dd bc bs : Nat} (K : am_ok X b_RM_make R_RM 10 dd) {post : Option am_V → List am_C → Prop} (hr : am_rt X (some .boolean) post) {sp_RM_add_16 : am_S} {dd_RM_add_16 : Nat} (c_RM_add_16 : Con y_RM_add b_RM_add 5 none dd_RM_add_16 0 0 false sp_RM_add_16) (hdd_RM_add_16 : dd_RM_add_16 + 1 ≤ dd) {l2 l3 l4 l7 x_thrown x_nodes x_room x_states x_kinds x_rules x_numberings x_wholes x_gone x_steps x_old x_stuck x_answer x_badWhole x_same x_at : Int32} {x_to x_sentMany x_sentKind x_sentWhom x_rows x_next : Nat → Int32} {c1 c2 c7 c8 c10 c11 c12 c13 c14 c15 c17 c18 : am_C}
    (h : vp_in l3 40 ∧ ((x_sentMany l3.toNatClampNeg) ≤ l7 → post (some (aI 1)) [oC 5 [aI x_thrown, aI x_nodes, aI x_room, aI x_states, aI x_kinds, aI x_rules, aR 1, aR 2, aR 3, aR 4, aR 5, aR 6, aR 7, aR 8, aI x_numberings, aI x_wholes, aI x_gone, aI x_steps, aI x_old, aI x_stuck, aI x_answer, aI x_badWhole, aR 9, aR 10, aR 11, aR 12, aR 13, aR 14, aR 15, aR 16, aR 17, aR 18, aI x_same, aI x_at], c1, c2, iC 40 x_to, iC 40 x_sentMany, iC 160 x_sentKind, iC 160 x_sentWhom, c7, c8, iC 98304 x_rows, c10, c11, c12, c13, c14, c15, iC 12 x_next, c17, c18]) ∧ (¬ (x_sentMany l3.toNatClampNeg) ≤ l7 → vp_in (((4 : Int32) * l3) + l7) 160 ∧ vp_in (((4 : Int32) * l3) + l7) 160 ∧ (¬ (x_sentWhom (((4 : Int32) * l3) + l7).toNatClampNeg) = 0 → AW X 283 [some (aR 0), none, some (aI l2), some (aI l3), some (aI l4), none, none, some (aI l7), some (aI (((16 : Int32) * (x_sentKind (((4 : Int32) * l3) + l7).toNatClampNeg)) + ((4 : Int32) * l2))), none] [] [oC 5 [aI x_thrown, aI x_nodes, aI x_room, aI x_states, aI x_kinds, aI x_rules, aR 1, aR 2, aR 3, aR 4, aR 5, aR 6, aR 7, aR 8, aI x_numberings, aI x_wholes, aI x_gone, aI x_steps, aI x_old, aI x_stuck, aI x_answer, aI x_badWhole, aR 9, aR 10, aR 11, aR 12, aR 13, aR 14, aR 15, aR 16, aR 17, aR 18, aI x_same, aI x_at], c1, c2, iC 40 x_to, iC 40 x_sentMany, iC 160 x_sentKind, iC 160 x_sentWhom, c7, c8, iC 98304 x_rows, c10, c11, c12, c13, c14, c15, iC 12 x_next, c17, c18] bc bs) ∧ ((x_sentWhom (((4 : Int32) * l3) + l7).toNatClampNeg) = 0 → sp_RM_add_16 [aR 0, aR 16, aI ((((16 : Int32) * (x_sentKind (((4 : Int32) * l3) + l7).toNatClampNeg)) + ((4 : Int32) * l2)) + ((l4 / (4 : Int32)) - (l4 / (4 : Int32)) / (4 : Int32) * (4 : Int32)))] [oC 5 [aI x_thrown, aI x_nodes, aI x_room, aI x_states, aI x_kinds, aI x_rules, aR 1, aR 2, aR 3, aR 4, aR 5, aR 6, aR 7, aR 8, aI x_numberings, aI x_wholes, aI x_gone, aI x_steps, aI x_old, aI x_stuck, aI x_answer, aI x_badWhole, aR 9, aR 10, aR 11, aR 12, aR 13, aR 14, aR 15, aR 16, aR 17, aR 18, aI x_same, aI x_at], c1, c2, iC 40 x_to, iC 40 x_sentMany, iC 160 x_sentKind, iC 160 x_sentWhom, c7, c8, iC 98304 x_rows, c10, c11, c12, c13, c14, c15, iC 12 x_next, c17, c18] (fun rv w' => AW X 283 [some (aR 0), none, some (aI l2), some (aI l3), some (aI l4), none, none, some (aI l7), some (aI (((16 : Int32) * (x_sentKind (((4 : Int32) * l3) + l7).toNatClampNeg)) + ((4 : Int32) * l2))), none] (rv.toList ++ []) w' bc bs)))) :
    AW X 221 [some (aR 0), none, some (aI l2), some (aI l3), some (aI l4), none, none, some (aI l7), none, none] [] [oC 5 [aI x_thrown, aI x_nodes, aI x_room, aI x_states, aI x_kinds, aI x_rules, aR 1, aR 2, aR 3, aR 4, aR 5, aR 6, aR 7, aR 8, aI x_numberings, aI x_wholes, aI x_gone, aI x_steps, aI x_old, aI x_stuck, aI x_answer, aI x_badWhole, aR 9, aR 10, aR 11, aR 12, aR 13, aR 14, aR 15, aR 16, aR 17, aR 18, aI x_same, aI x_at], c1, c2, iC 40 x_to, iC 40 x_sentMany, iC 160 x_sentKind, iC 160 x_sentWhom, c7, c8, iC 98304 x_rows, c10, c11, c12, c13, c14, c15, iC 12 x_next, c17, c18] bc bs := by
  refine aw_iload K d_RM_make_221 rfl rfl ?_
  refine aw_aload_n K d_RM_make_223 rfl rfl ?_
  refine aw_getf K fd_RM_23 d_RM_make_224 rfl rfl rfl ?_
  refine aw_iload_n K d_RM_make_227 rfl rfl ?_
  refine aw_iald K d_RM_make_228 rfl rfl h.1 ?_
  replace h := h.2
  refine aw_icmp_ge K d_RM_make_229 (t := 341) (by decide) rfl (fun q => ?_) (fun q => ?_)
  · replace h := h.1 q
    refine aw_iconst K d_RM_make_341 rfl (v := 1) (by decide) ?_
    exact aw_zret K hr d_RM_make_342 (Or.inr rfl) h
  · replace h := h.2 q
    refine aw_bipush K d_RM_make_232 rfl (v := 16) (by decide) ?_
    refine aw_aload_n K d_RM_make_234 rfl rfl ?_
    refine aw_getf K fd_RM_26 d_RM_make_235 rfl rfl rfl ?_
    refine aw_iconst K d_RM_make_238 rfl (v := 4) (by decide) ?_
    refine aw_iload_n K d_RM_make_239 rfl rfl ?_
    refine aw_imul K d_RM_make_240 rfl ?_
    refine aw_iload K d_RM_make_241 rfl rfl ?_
    refine aw_iadd K d_RM_make_243 rfl ?_
    refine aw_iald K d_RM_make_244 rfl rfl h.1 ?_
    replace h := h.2
    refine aw_imul K d_RM_make_245 rfl ?_
    refine aw_iconst K d_RM_make_246 rfl (v := 4) (by decide) ?_
    refine aw_iload_n K d_RM_make_247 rfl rfl ?_
    refine aw_imul K d_RM_make_248 rfl ?_
    refine aw_iadd K d_RM_make_249 rfl ?_
    refine aw_istore K d_RM_make_250 rfl (by decide) (lv' := [some (aR 0), none, some (aI l2), some (aI l3), some (aI l4), none, none, some (aI l7), some (aI (((16 : Int32) * (x_sentKind (((4 : Int32) * l3) + l7).toNatClampNeg)) + ((4 : Int32) * l2))), none]) rfl ?_
    refine aw_aload_n K d_RM_make_252 rfl rfl ?_
    refine aw_getf K fd_RM_29 d_RM_make_253 rfl rfl rfl ?_
    refine aw_iconst K d_RM_make_256 rfl (v := 4) (by decide) ?_
    refine aw_iload_n K d_RM_make_257 rfl rfl ?_
    refine aw_imul K d_RM_make_258 rfl ?_
    refine aw_iload K d_RM_make_259 rfl rfl ?_
    refine aw_iadd K d_RM_make_261 rfl ?_
    refine aw_iald K d_RM_make_262 rfl rfl h.1 ?_
    replace h := h.2
    refine aw_if_ne K d_RM_make_263 (t := 283) (by decide) rfl (fun q => ?_) (fun q => ?_)
    · replace h := h.1 q
      exact h
    · replace h := h.2 q
      refine aw_aload_n K d_RM_make_266 rfl rfl ?_
      refine aw_aload_n K d_RM_make_267 rfl rfl ?_
      refine aw_getf K fd_RM_61 d_RM_make_268 rfl rfl rfl ?_
      refine aw_iload K d_RM_make_271 rfl rfl ?_
      refine aw_iload K d_RM_make_273 rfl rfl ?_
      refine aw_iconst K d_RM_make_275 rfl (v := 4) (by decide) ?_
      refine aw_idiv K d_RM_make_276 rfl (by decide) ?_
      refine aw_iconst K d_RM_make_277 rfl (v := 4) (by decide) ?_
      refine aw_irem K d_RM_make_278 rfl (by decide) ?_
      refine aw_iadd K d_RM_make_279 rfl ?_
      exact aw_callV K c_RM_add_16 cb_RM_120 ci_RM_add cs_RM_add hdd_RM_add_16 (k := 0) rfl rfl d_RM_make_280 rfl (av := [aR 16, aI ((((16 : Int32) * (x_sentKind (((4 : Int32) * l3) + l7).toNatClampNeg)) + ((4 : Int32) * l2)) + ((l4 / (4 : Int32)) - (l4 / (4 : Int32)) / (4 : Int32) * (4 : Int32)))]) rfl (Nat.le_of_ble_eq_true rfl) h (fun rv w' hF => hF)
set_option maxRecDepth 20000 in
theorem x_RM_make_283 {X : am_X} {dd bc bs : Nat} (K : am_ok X b_RM_make R_RM 10 dd) {post : Option am_V → List am_C → Prop} (hr : am_rt X (some .boolean) post) {l2 l3 l4 l7 l8 x_thrown x_nodes x_room x_states x_kinds x_rules x_numberings x_wholes x_gone x_steps x_old x_stuck x_answer x_badWhole x_same x_at : Int32} {x_to x_sentMany x_sentKind x_sentWhom x_rows x_next : Nat → Int32} {c1 c2 c7 c8 c10 c11 c12 c13 c14 c15 c17 c18 : am_C}
    (h : AW X 286 [some (aR 0), none, some (aI l2), some (aI l3), some (aI l4), none, none, some (aI l7), some (aI l8), some (aI 0)] [] [oC 5 [aI x_thrown, aI x_nodes, aI x_room, aI x_states, aI x_kinds, aI x_rules, aR 1, aR 2, aR 3, aR 4, aR 5, aR 6, aR 7, aR 8, aI x_numberings, aI x_wholes, aI x_gone, aI x_steps, aI x_old, aI x_stuck, aI x_answer, aI x_badWhole, aR 9, aR 10, aR 11, aR 12, aR 13, aR 14, aR 15, aR 16, aR 17, aR 18, aI x_same, aI x_at], c1, c2, iC 40 x_to, iC 40 x_sentMany, iC 160 x_sentKind, iC 160 x_sentWhom, c7, c8, iC 98304 x_rows, c10, c11, c12, c13, c14, c15, iC 12 x_next, c17, c18] bc bs) :
    AW X 283 [some (aR 0), none, some (aI l2), some (aI l3), some (aI l4), none, none, some (aI l7), some (aI l8), none] [] [oC 5 [aI x_thrown, aI x_nodes, aI x_room, aI x_states, aI x_kinds, aI x_rules, aR 1, aR 2, aR 3, aR 4, aR 5, aR 6, aR 7, aR 8, aI x_numberings, aI x_wholes, aI x_gone, aI x_steps, aI x_old, aI x_stuck, aI x_answer, aI x_badWhole, aR 9, aR 10, aR 11, aR 12, aR 13, aR 14, aR 15, aR 16, aR 17, aR 18, aI x_same, aI x_at], c1, c2, iC 40 x_to, iC 40 x_sentMany, iC 160 x_sentKind, iC 160 x_sentWhom, c7, c8, iC 98304 x_rows, c10, c11, c12, c13, c14, c15, iC 12 x_next, c17, c18] bc bs := by
  refine aw_iconst K d_RM_make_283 rfl (v := 0) (by decide) ?_
  refine aw_istore K d_RM_make_284 rfl (by decide) (lv' := [some (aR 0), none, some (aI l2), some (aI l3), some (aI l4), none, none, some (aI l7), some (aI l8), some (aI 0)]) rfl ?_
  exact h
set_option maxRecDepth 20000 in
theorem x_RM_make_286 {X : am_X} {dd bc bs : Nat} (K : am_ok X b_RM_make R_RM 10 dd) {post : Option am_V → List am_C → Prop} (hr : am_rt X (some .boolean) post) {sp_RM_add_16 : am_S} {dd_RM_add_16 : Nat} (c_RM_add_16 : Con y_RM_add b_RM_add 5 none dd_RM_add_16 0 0 false sp_RM_add_16) (hdd_RM_add_16 : dd_RM_add_16 + 1 ≤ dd) {l2 l3 l4 l7 l8 l9 x_thrown x_nodes x_room x_states x_kinds x_rules x_numberings x_wholes x_gone x_steps x_old x_stuck x_answer x_badWhole x_same x_at : Int32} {x_to x_sentMany x_sentKind x_sentWhom x_rows x_next : Nat → Int32} {c1 c2 c7 c8 c10 c11 c12 c13 c14 c15 c17 c18 : am_C}
    (h : (x_nodes ≤ l9 → AW X 221 [some (aR 0), none, some (aI l2), some (aI l3), some (aI l4), none, none, some (aI (l7 + 1)), none, none] [] [oC 5 [aI x_thrown, aI x_nodes, aI x_room, aI x_states, aI x_kinds, aI x_rules, aR 1, aR 2, aR 3, aR 4, aR 5, aR 6, aR 7, aR 8, aI x_numberings, aI x_wholes, aI x_gone, aI x_steps, aI x_old, aI x_stuck, aI x_answer, aI x_badWhole, aR 9, aR 10, aR 11, aR 12, aR 13, aR 14, aR 15, aR 16, aR 17, aR 18, aI x_same, aI x_at], c1, c2, iC 40 x_to, iC 40 x_sentMany, iC 160 x_sentKind, iC 160 x_sentWhom, c7, c8, iC 98304 x_rows, c10, c11, c12, c13, c14, c15, iC 12 x_next, c17, c18] bc bs) ∧ (¬ x_nodes ≤ l9 → vp_in (((4 : Int32) * l3) + l7) 160 ∧ (¬ (x_sentWhom (((4 : Int32) * l3) + l7).toNatClampNeg) = 1 → AW X 221 [some (aR 0), none, some (aI l2), some (aI l3), some (aI l4), none, none, some (aI (l7 + 1)), none, none] [] [oC 5 [aI x_thrown, aI x_nodes, aI x_room, aI x_states, aI x_kinds, aI x_rules, aR 1, aR 2, aR 3, aR 4, aR 5, aR 6, aR 7, aR 8, aI x_numberings, aI x_wholes, aI x_gone, aI x_steps, aI x_old, aI x_stuck, aI x_answer, aI x_badWhole, aR 9, aR 10, aR 11, aR 12, aR 13, aR 14, aR 15, aR 16, aR 17, aR 18, aI x_same, aI x_at], c1, c2, iC 40 x_to, iC 40 x_sentMany, iC 160 x_sentKind, iC 160 x_sentWhom, c7, c8, iC 98304 x_rows, c10, c11, c12, c13, c14, c15, iC 12 x_next, c17, c18] bc bs) ∧ ((x_sentWhom (((4 : Int32) * l3) + l7).toNatClampNeg) = 1 → (l9 = l2 → AW X 329 [some (aR 0), none, some (aI l2), some (aI l3), some (aI l4), none, none, some (aI l7), some (aI l8), some (aI l9)] [] [oC 5 [aI x_thrown, aI x_nodes, aI x_room, aI x_states, aI x_kinds, aI x_rules, aR 1, aR 2, aR 3, aR 4, aR 5, aR 6, aR 7, aR 8, aI x_numberings, aI x_wholes, aI x_gone, aI x_steps, aI x_old, aI x_stuck, aI x_answer, aI x_badWhole, aR 9, aR 10, aR 11, aR 12, aR 13, aR 14, aR 15, aR 16, aR 17, aR 18, aI x_same, aI x_at], c1, c2, iC 40 x_to, iC 40 x_sentMany, iC 160 x_sentKind, iC 160 x_sentWhom, c7, c8, iC 98304 x_rows, c10, c11, c12, c13, c14, c15, iC 12 x_next, c17, c18] bc bs) ∧ (¬ l9 = l2 → sp_RM_add_16 [aR 0, aR 16, aI (l8 + l9)] [oC 5 [aI x_thrown, aI x_nodes, aI x_room, aI x_states, aI x_kinds, aI x_rules, aR 1, aR 2, aR 3, aR 4, aR 5, aR 6, aR 7, aR 8, aI x_numberings, aI x_wholes, aI x_gone, aI x_steps, aI x_old, aI x_stuck, aI x_answer, aI x_badWhole, aR 9, aR 10, aR 11, aR 12, aR 13, aR 14, aR 15, aR 16, aR 17, aR 18, aI x_same, aI x_at], c1, c2, iC 40 x_to, iC 40 x_sentMany, iC 160 x_sentKind, iC 160 x_sentWhom, c7, c8, iC 98304 x_rows, c10, c11, c12, c13, c14, c15, iC 12 x_next, c17, c18] (fun rv w' => AW X 329 [some (aR 0), none, some (aI l2), some (aI l3), some (aI l4), none, none, some (aI l7), some (aI l8), some (aI l9)] (rv.toList ++ []) w' bc bs))))) :
    AW X 286 [some (aR 0), none, some (aI l2), some (aI l3), some (aI l4), none, none, some (aI l7), some (aI l8), some (aI l9)] [] [oC 5 [aI x_thrown, aI x_nodes, aI x_room, aI x_states, aI x_kinds, aI x_rules, aR 1, aR 2, aR 3, aR 4, aR 5, aR 6, aR 7, aR 8, aI x_numberings, aI x_wholes, aI x_gone, aI x_steps, aI x_old, aI x_stuck, aI x_answer, aI x_badWhole, aR 9, aR 10, aR 11, aR 12, aR 13, aR 14, aR 15, aR 16, aR 17, aR 18, aI x_same, aI x_at], c1, c2, iC 40 x_to, iC 40 x_sentMany, iC 160 x_sentKind, iC 160 x_sentWhom, c7, c8, iC 98304 x_rows, c10, c11, c12, c13, c14, c15, iC 12 x_next, c17, c18] bc bs := by
  refine aw_iload K d_RM_make_286 rfl rfl ?_
  refine aw_aload_n K d_RM_make_288 rfl rfl ?_
  refine aw_getf K fd_RM_70 d_RM_make_289 rfl rfl rfl ?_
  refine aw_icmp_ge K d_RM_make_292 (t := 335) (by decide) rfl (fun q => ?_) (fun q => ?_)
  · replace h := h.1 q
    refine aw_iinc K d_RM_make_335 rfl rfl (v := l7 + 1) rfl (by decide) (lv' := [some (aR 0), none, some (aI l2), some (aI l3), some (aI l4), none, none, some (aI (l7 + 1)), some (aI l8), some (aI l9)]) rfl ?_
    refine aw_goto K d_RM_make_338 (n := 221) (by decide) ?_
    refine aw_less [8, 9] rfl ?_
    exact h
  · replace h := h.2 q
    refine aw_aload_n K d_RM_make_295 rfl rfl ?_
    refine aw_getf K fd_RM_29 d_RM_make_296 rfl rfl rfl ?_
    refine aw_iconst K d_RM_make_299 rfl (v := 4) (by decide) ?_
    refine aw_iload_n K d_RM_make_300 rfl rfl ?_
    refine aw_imul K d_RM_make_301 rfl ?_
    refine aw_iload K d_RM_make_302 rfl rfl ?_
    refine aw_iadd K d_RM_make_304 rfl ?_
    refine aw_iald K d_RM_make_305 rfl rfl h.1 ?_
    replace h := h.2
    refine aw_iconst K d_RM_make_306 rfl (v := 1) (by decide) ?_
    refine aw_icmp_ne K d_RM_make_307 (t := 335) (by decide) rfl (fun q => ?_) (fun q => ?_)
    · replace h := h.1 q
      refine aw_iinc K d_RM_make_335 rfl rfl (v := l7 + 1) rfl (by decide) (lv' := [some (aR 0), none, some (aI l2), some (aI l3), some (aI l4), none, none, some (aI (l7 + 1)), some (aI l8), some (aI l9)]) rfl ?_
      refine aw_goto K d_RM_make_338 (n := 221) (by decide) ?_
      refine aw_less [8, 9] rfl ?_
      exact h
    · replace h := h.2 q
      refine aw_iload K d_RM_make_310 rfl rfl ?_
      refine aw_iload_n K d_RM_make_312 rfl rfl ?_
      refine aw_icmp_eq K d_RM_make_313 (t := 329) (by decide) rfl (fun q => ?_) (fun q => ?_)
      · replace h := h.1 q
        exact h
      · replace h := h.2 q
        refine aw_aload_n K d_RM_make_316 rfl rfl ?_
        refine aw_aload_n K d_RM_make_317 rfl rfl ?_
        refine aw_getf K fd_RM_61 d_RM_make_318 rfl rfl rfl ?_
        refine aw_iload K d_RM_make_321 rfl rfl ?_
        refine aw_iload K d_RM_make_323 rfl rfl ?_
        refine aw_iadd K d_RM_make_325 rfl ?_
        exact aw_callV K c_RM_add_16 cb_RM_120 ci_RM_add cs_RM_add hdd_RM_add_16 (k := 0) rfl rfl d_RM_make_326 rfl (av := [aR 16, aI (l8 + l9)]) rfl (Nat.le_of_ble_eq_true rfl) h (fun rv w' hF => hF)
set_option maxRecDepth 20000 in
theorem x_RM_make_329 {X : am_X} {dd bc bs : Nat} (K : am_ok X b_RM_make R_RM 10 dd) {post : Option am_V → List am_C → Prop} (hr : am_rt X (some .boolean) post) {l2 l3 l4 l7 l8 l9 x_thrown x_nodes x_room x_states x_kinds x_rules x_numberings x_wholes x_gone x_steps x_old x_stuck x_answer x_badWhole x_same x_at : Int32} {x_to x_sentMany x_sentKind x_sentWhom x_rows x_next : Nat → Int32} {c1 c2 c7 c8 c10 c11 c12 c13 c14 c15 c17 c18 : am_C}
    (h : AW X 286 [some (aR 0), none, some (aI l2), some (aI l3), some (aI l4), none, none, some (aI l7), some (aI l8), some (aI (l9 + 1))] [] [oC 5 [aI x_thrown, aI x_nodes, aI x_room, aI x_states, aI x_kinds, aI x_rules, aR 1, aR 2, aR 3, aR 4, aR 5, aR 6, aR 7, aR 8, aI x_numberings, aI x_wholes, aI x_gone, aI x_steps, aI x_old, aI x_stuck, aI x_answer, aI x_badWhole, aR 9, aR 10, aR 11, aR 12, aR 13, aR 14, aR 15, aR 16, aR 17, aR 18, aI x_same, aI x_at], c1, c2, iC 40 x_to, iC 40 x_sentMany, iC 160 x_sentKind, iC 160 x_sentWhom, c7, c8, iC 98304 x_rows, c10, c11, c12, c13, c14, c15, iC 12 x_next, c17, c18] bc bs) :
    AW X 329 [some (aR 0), none, some (aI l2), some (aI l3), some (aI l4), none, none, some (aI l7), some (aI l8), some (aI l9)] [] [oC 5 [aI x_thrown, aI x_nodes, aI x_room, aI x_states, aI x_kinds, aI x_rules, aR 1, aR 2, aR 3, aR 4, aR 5, aR 6, aR 7, aR 8, aI x_numberings, aI x_wholes, aI x_gone, aI x_steps, aI x_old, aI x_stuck, aI x_answer, aI x_badWhole, aR 9, aR 10, aR 11, aR 12, aR 13, aR 14, aR 15, aR 16, aR 17, aR 18, aI x_same, aI x_at], c1, c2, iC 40 x_to, iC 40 x_sentMany, iC 160 x_sentKind, iC 160 x_sentWhom, c7, c8, iC 98304 x_rows, c10, c11, c12, c13, c14, c15, iC 12 x_next, c17, c18] bc bs := by
  refine aw_iinc K d_RM_make_329 rfl rfl (v := l9 + 1) rfl (by decide) (lv' := [some (aR 0), none, some (aI l2), some (aI l3), some (aI l4), none, none, some (aI l7), some (aI l8), some (aI (l9 + 1))]) rfl ?_
  refine aw_goto K d_RM_make_332 (n := 286) (by decide) ?_
  exact h
set_option maxRecDepth 20000 in
theorem x_RM_step_0 {X : am_X} {dd bc bs : Nat} (K : am_ok X b_RM_step R_RM 3 dd) {post : Option am_V → List am_C → Prop} (hr : am_rt X (some .boolean) post) {sp_RM_form : am_S} {dd_RM_form : Nat} (c_RM_form : Con y_RM_form b_RM_form 4 none dd_RM_form 0 0 false sp_RM_form) (hdd_RM_form : dd_RM_form + 1 ≤ dd) {l1 l2 x_thrown x_nodes x_room x_states x_kinds x_rules x_numberings x_wholes x_gone x_steps x_old x_stuck x_answer x_badWhole x_same x_at : Int32} {c1 c2 c3 c4 c5 c6 c7 c8 c9 c10 c11 c12 c13 c14 c15 c16 c17 c18 : am_C}
    (h : sp_RM_form [aR 0] [oC 5 [aI x_thrown, aI x_nodes, aI x_room, aI x_states, aI x_kinds, aI x_rules, aR 1, aR 2, aR 3, aR 4, aR 5, aR 6, aR 7, aR 8, aI x_numberings, aI x_wholes, aI x_gone, aI (x_steps + (1 : Int32)), aI x_old, aI x_stuck, aI x_answer, aI x_badWhole, aR 9, aR 10, aR 11, aR 12, aR 13, aR 14, aR 15, aR 16, aR 17, aR 18, aI x_same, aI x_at], c1, c2, c3, c4, c5, c6, c7, c8, c9, c10, c11, c12, c13, c14, c15, c16, c17, c18] (fun rv w' => AW X 14 [some (aR 0), some (aI l1), some (aI l2)] (rv.toList ++ []) w' bc bs)) :
    AW X 0 [some (aR 0), some (aI l1), some (aI l2)] [] [oC 5 [aI x_thrown, aI x_nodes, aI x_room, aI x_states, aI x_kinds, aI x_rules, aR 1, aR 2, aR 3, aR 4, aR 5, aR 6, aR 7, aR 8, aI x_numberings, aI x_wholes, aI x_gone, aI x_steps, aI x_old, aI x_stuck, aI x_answer, aI x_badWhole, aR 9, aR 10, aR 11, aR 12, aR 13, aR 14, aR 15, aR 16, aR 17, aR 18, aI x_same, aI x_at], c1, c2, c3, c4, c5, c6, c7, c8, c9, c10, c11, c12, c13, c14, c15, c16, c17, c18] bc bs := by
  refine aw_aload_n K d_RM_step_0 rfl rfl ?_
  refine aw_dup K d_RM_step_1 rfl (fun _ e => nomatch e) ?_
  refine aw_getf K fd_RM_88 d_RM_step_2 rfl rfl rfl ?_
  refine aw_iconst K d_RM_step_5 rfl (v := 1) (by decide) ?_
  refine aw_iadd K d_RM_step_6 rfl ?_
  refine aw_putf K fp_RM_88 d_RM_step_7 rfl rfl (Nat.le_of_ble_eq_true rfl) (am_fit_i _) (w' := [oC 5 [aI x_thrown, aI x_nodes, aI x_room, aI x_states, aI x_kinds, aI x_rules, aR 1, aR 2, aR 3, aR 4, aR 5, aR 6, aR 7, aR 8, aI x_numberings, aI x_wholes, aI x_gone, aI (x_steps + (1 : Int32)), aI x_old, aI x_stuck, aI x_answer, aI x_badWhole, aR 9, aR 10, aR 11, aR 12, aR 13, aR 14, aR 15, aR 16, aR 17, aR 18, aI x_same, aI x_at], c1, c2, c3, c4, c5, c6, c7, c8, c9, c10, c11, c12, c13, c14, c15, c16, c17, c18]) rfl ?_
  refine aw_aload_n K d_RM_step_10 rfl rfl ?_
  exact aw_callV K c_RM_form cb_RM_146 ci_RM_form cs_RM_form hdd_RM_form (k := 0) rfl rfl d_RM_step_11 rfl (av := []) rfl (Nat.le_of_ble_eq_true rfl) h (fun rv w' hF => hF)
set_option maxRecDepth 20000 in
theorem x_RM_step_14 {X : am_X} {dd bc bs : Nat} (K : am_ok X b_RM_step R_RM 3 dd) {post : Option am_V → List am_C → Prop} (hr : am_rt X (some .boolean) post) {sp_RM_isThere : am_S} {dd_RM_isThere : Nat} (c_RM_isThere : Con y_RM_isThere b_RM_isThere 4 (some .boolean) dd_RM_isThere 0 0 false sp_RM_isThere) (hdd_RM_isThere : dd_RM_isThere + 1 ≤ dd) {l1 l2 x_thrown x_nodes x_room x_states x_kinds x_rules x_numberings x_wholes x_gone x_steps x_old x_stuck x_answer x_badWhole x_same x_at : Int32} {c1 c2 c3 c4 c5 c6 c7 c8 c9 c10 c11 c12 c13 c14 c15 c16 c17 c18 : am_C}
    (h : sp_RM_isThere [aR 0] [oC 5 [aI x_thrown, aI x_nodes, aI x_room, aI x_states, aI x_kinds, aI x_rules, aR 1, aR 2, aR 3, aR 4, aR 5, aR 6, aR 7, aR 8, aI x_numberings, aI x_wholes, aI x_gone, aI x_steps, aI x_old, aI x_stuck, aI x_answer, aI x_badWhole, aR 9, aR 10, aR 11, aR 12, aR 13, aR 14, aR 15, aR 16, aR 17, aR 18, aI x_same, aI x_at], c1, c2, c3, c4, c5, c6, c7, c8, c9, c10, c11, c12, c13, c14, c15, c16, c17, c18] (fun rv w' => AW X 18 [some (aR 0), some (aI l1), some (aI l2)] (rv.toList ++ []) w' bc bs)) :
    AW X 14 [some (aR 0), some (aI l1), some (aI l2)] [] [oC 5 [aI x_thrown, aI x_nodes, aI x_room, aI x_states, aI x_kinds, aI x_rules, aR 1, aR 2, aR 3, aR 4, aR 5, aR 6, aR 7, aR 8, aI x_numberings, aI x_wholes, aI x_gone, aI x_steps, aI x_old, aI x_stuck, aI x_answer, aI x_badWhole, aR 9, aR 10, aR 11, aR 12, aR 13, aR 14, aR 15, aR 16, aR 17, aR 18, aI x_same, aI x_at], c1, c2, c3, c4, c5, c6, c7, c8, c9, c10, c11, c12, c13, c14, c15, c16, c17, c18] bc bs := by
  refine aw_aload_n K d_RM_step_14 rfl rfl ?_
  exact aw_callV K c_RM_isThere cb_RM_153 ci_RM_isThere cs_RM_isThere hdd_RM_isThere (k := 0) rfl rfl d_RM_step_15 rfl (av := []) rfl (Nat.le_of_ble_eq_true rfl) h (fun rv w' hF => hF)
set_option maxRecDepth 20000 in
theorem x_RM_step_18 {X : am_X} {dd bc bs : Nat} (K : am_ok X b_RM_step R_RM 3 dd) {post : Option am_V → List am_C → Prop} (hr : am_rt X (some .boolean) post) {sp_RM_come : am_S} {dd_RM_come : Nat} (c_RM_come : Con y_RM_come b_RM_come 4 none dd_RM_come 0 0 false sp_RM_come) (hdd_RM_come : dd_RM_come + 1 ≤ dd) {l1 l2 s0 x_thrown x_nodes x_room x_states x_kinds x_rules x_numberings x_wholes x_gone x_steps x_old x_stuck x_answer x_badWhole x_same x_at : Int32} {c1 c2 c3 c4 c5 c6 c7 c8 c9 c10 c11 c12 c13 c14 c15 c16 c17 c18 : am_C}
    (h : (s0 = 0 → (¬ x_wholes = x_room → sp_RM_come [aR 0, aI l1, aI l2] [oC 5 [aI x_thrown, aI x_nodes, aI x_room, aI x_states, aI x_kinds, aI x_rules, aR 1, aR 2, aR 3, aR 4, aR 5, aR 6, aR 7, aR 8, aI x_numberings, aI x_wholes, aI x_gone, aI x_steps, aI x_old, aI x_stuck, aI x_answer, aI x_badWhole, aR 9, aR 10, aR 11, aR 12, aR 13, aR 14, aR 15, aR 16, aR 17, aR 18, aI x_same, aI x_at], c1, c2, c3, c4, c5, c6, c7, c8, c9, c10, c11, c12, c13, c14, c15, c16, c17, c18] (fun rv w' => AW X 57 [some (aR 0), none, none] (rv.toList ++ []) w' bc bs)) ∧ (x_wholes = x_room → post (some (aI 0)) [oC 5 [aI x_thrown, aI x_nodes, aI x_room, aI x_states, aI x_kinds, aI x_rules, aR 1, aR 2, aR 3, aR 4, aR 5, aR 6, aR 7, aR 8, aI x_numberings, aI x_wholes, aI x_gone, aI x_steps, aI x_old, aI x_stuck, aI ((-1)), aI x_badWhole, aR 9, aR 10, aR 11, aR 12, aR 13, aR 14, aR 15, aR 16, aR 17, aR 18, aI x_same, aI x_at], c1, c2, c3, c4, c5, c6, c7, c8, c9, c10, c11, c12, c13, c14, c15, c16, c17, c18])) ∧ (¬ s0 = 0 → post (some (aI 1)) [oC 5 [aI x_thrown, aI x_nodes, aI x_room, aI x_states, aI x_kinds, aI x_rules, aR 1, aR 2, aR 3, aR 4, aR 5, aR 6, aR 7, aR 8, aI x_numberings, aI x_wholes, aI x_gone, aI x_steps, aI (x_old + (1 : Int32)), aI x_stuck, aI x_answer, aI x_badWhole, aR 9, aR 10, aR 11, aR 12, aR 13, aR 14, aR 15, aR 16, aR 17, aR 18, aI x_same, aI x_at], c1, c2, c3, c4, c5, c6, c7, c8, c9, c10, c11, c12, c13, c14, c15, c16, c17, c18])) :
    AW X 18 [some (aR 0), some (aI l1), some (aI l2)] [aI s0] [oC 5 [aI x_thrown, aI x_nodes, aI x_room, aI x_states, aI x_kinds, aI x_rules, aR 1, aR 2, aR 3, aR 4, aR 5, aR 6, aR 7, aR 8, aI x_numberings, aI x_wholes, aI x_gone, aI x_steps, aI x_old, aI x_stuck, aI x_answer, aI x_badWhole, aR 9, aR 10, aR 11, aR 12, aR 13, aR 14, aR 15, aR 16, aR 17, aR 18, aI x_same, aI x_at], c1, c2, c3, c4, c5, c6, c7, c8, c9, c10, c11, c12, c13, c14, c15, c16, c17, c18] bc bs := by
  refine aw_if_eq K d_RM_step_18 (t := 33) (by decide) rfl (fun q => ?_) (fun q => ?_)
  · replace h := h.1 q
    refine aw_aload_n K d_RM_step_33 rfl rfl ?_
    refine aw_getf K fd_RM_82 d_RM_step_34 rfl rfl rfl ?_
    refine aw_aload_n K d_RM_step_37 rfl rfl ?_
    refine aw_getf K fd_RM_73 d_RM_step_38 rfl rfl rfl ?_
    refine aw_icmp_ne K d_RM_step_41 (t := 51) (by decide) rfl (fun q => ?_) (fun q => ?_)
    · replace h := h.1 q
      refine aw_aload_n K d_RM_step_51 rfl rfl ?_
      refine aw_iload_n K d_RM_step_52 rfl rfl ?_
      refine aw_iload_n K d_RM_step_53 rfl rfl ?_
      refine aw_less [1, 2] rfl ?_
      exact aw_callV K c_RM_come cb_RM_149 ci_RM_come cs_RM_come hdd_RM_come (k := 0) rfl rfl d_RM_step_54 rfl (av := [aI l1, aI l2]) rfl (Nat.le_of_ble_eq_true rfl) h (fun rv w' hF => hF)
    · replace h := h.2 q
      refine aw_aload_n K d_RM_step_44 rfl rfl ?_
      refine aw_iconst K d_RM_step_45 rfl (v := (-1)) (by decide) ?_
      refine aw_putf K fp_RM_97 d_RM_step_46 rfl rfl (Nat.le_of_ble_eq_true rfl) (am_fit_i _) (w' := [oC 5 [aI x_thrown, aI x_nodes, aI x_room, aI x_states, aI x_kinds, aI x_rules, aR 1, aR 2, aR 3, aR 4, aR 5, aR 6, aR 7, aR 8, aI x_numberings, aI x_wholes, aI x_gone, aI x_steps, aI x_old, aI x_stuck, aI ((-1)), aI x_badWhole, aR 9, aR 10, aR 11, aR 12, aR 13, aR 14, aR 15, aR 16, aR 17, aR 18, aI x_same, aI x_at], c1, c2, c3, c4, c5, c6, c7, c8, c9, c10, c11, c12, c13, c14, c15, c16, c17, c18]) rfl ?_
      refine aw_iconst K d_RM_step_49 rfl (v := 0) (by decide) ?_
      exact aw_zret K hr d_RM_step_50 (Or.inl rfl) h
  · replace h := h.2 q
    refine aw_aload_n K d_RM_step_21 rfl rfl ?_
    refine aw_dup K d_RM_step_22 rfl (fun _ e => nomatch e) ?_
    refine aw_getf K fd_RM_91 d_RM_step_23 rfl rfl rfl ?_
    refine aw_iconst K d_RM_step_26 rfl (v := 1) (by decide) ?_
    refine aw_iadd K d_RM_step_27 rfl ?_
    refine aw_putf K fp_RM_91 d_RM_step_28 rfl rfl (Nat.le_of_ble_eq_true rfl) (am_fit_i _) (w' := [oC 5 [aI x_thrown, aI x_nodes, aI x_room, aI x_states, aI x_kinds, aI x_rules, aR 1, aR 2, aR 3, aR 4, aR 5, aR 6, aR 7, aR 8, aI x_numberings, aI x_wholes, aI x_gone, aI x_steps, aI (x_old + (1 : Int32)), aI x_stuck, aI x_answer, aI x_badWhole, aR 9, aR 10, aR 11, aR 12, aR 13, aR 14, aR 15, aR 16, aR 17, aR 18, aI x_same, aI x_at], c1, c2, c3, c4, c5, c6, c7, c8, c9, c10, c11, c12, c13, c14, c15, c16, c17, c18]) rfl ?_
    refine aw_iconst K d_RM_step_31 rfl (v := 1) (by decide) ?_
    exact aw_zret K hr d_RM_step_32 (Or.inr rfl) h
set_option maxRecDepth 20000 in
theorem x_RM_step_57 {X : am_X} {dd bc bs : Nat} (K : am_ok X b_RM_step R_RM 3 dd) {post : Option am_V → List am_C → Prop} (hr : am_rt X (some .boolean) post) {x_thrown x_nodes x_room x_states x_kinds x_rules x_numberings x_wholes x_gone x_steps x_old x_stuck x_answer x_badWhole x_same x_at : Int32} {c1 c2 c3 c4 c5 c6 c7 c8 c9 c10 c11 c12 c13 c14 c15 c16 c17 c18 : am_C}
    (h : (¬ x_answer = 0 → post (some (aI 0)) [oC 5 [aI x_thrown, aI x_nodes, aI x_room, aI x_states, aI x_kinds, aI x_rules, aR 1, aR 2, aR 3, aR 4, aR 5, aR 6, aR 7, aR 8, aI x_numberings, aI x_wholes, aI x_gone, aI x_steps, aI x_old, aI x_stuck, aI x_answer, aI x_badWhole, aR 9, aR 10, aR 11, aR 12, aR 13, aR 14, aR 15, aR 16, aR 17, aR 18, aI x_same, aI x_at], c1, c2, c3, c4, c5, c6, c7, c8, c9, c10, c11, c12, c13, c14, c15, c16, c17, c18]) ∧ (x_answer = 0 → post (some (aI 1)) [oC 5 [aI x_thrown, aI x_nodes, aI x_room, aI x_states, aI x_kinds, aI x_rules, aR 1, aR 2, aR 3, aR 4, aR 5, aR 6, aR 7, aR 8, aI x_numberings, aI x_wholes, aI x_gone, aI x_steps, aI x_old, aI x_stuck, aI x_answer, aI x_badWhole, aR 9, aR 10, aR 11, aR 12, aR 13, aR 14, aR 15, aR 16, aR 17, aR 18, aI x_same, aI x_at], c1, c2, c3, c4, c5, c6, c7, c8, c9, c10, c11, c12, c13, c14, c15, c16, c17, c18])) :
    AW X 57 [some (aR 0), none, none] [] [oC 5 [aI x_thrown, aI x_nodes, aI x_room, aI x_states, aI x_kinds, aI x_rules, aR 1, aR 2, aR 3, aR 4, aR 5, aR 6, aR 7, aR 8, aI x_numberings, aI x_wholes, aI x_gone, aI x_steps, aI x_old, aI x_stuck, aI x_answer, aI x_badWhole, aR 9, aR 10, aR 11, aR 12, aR 13, aR 14, aR 15, aR 16, aR 17, aR 18, aI x_same, aI x_at], c1, c2, c3, c4, c5, c6, c7, c8, c9, c10, c11, c12, c13, c14, c15, c16, c17, c18] bc bs := by
  refine aw_aload_n K d_RM_step_57 rfl rfl ?_
  refine aw_getf K fd_RM_97 d_RM_step_58 rfl rfl rfl ?_
  refine aw_if_ne K d_RM_step_61 (t := 68) (by decide) rfl (fun q => ?_) (fun q => ?_)
  · replace h := h.1 q
    refine aw_iconst K d_RM_step_68 rfl (v := 0) (by decide) ?_
    exact aw_zret K hr d_RM_step_69 (Or.inl rfl) h
  · replace h := h.2 q
    refine aw_iconst K d_RM_step_64 rfl (v := 1) (by decide) ?_
    refine aw_goto K d_RM_step_65 (n := 69) (by decide) ?_
    exact aw_zret K hr d_RM_step_69 (Or.inr rfl) h
set_option maxRecDepth 20000 in
theorem x_RM_allSteps_0 {X : am_X} {dd bc bs : Nat} (K : am_ok X b_RM_allSteps R_RM 8 dd) {post : Option am_V → List am_C → Prop} (hr : am_rt X (some .int) post) {sp_RM_make : am_S} {dd_RM_make : Nat} (c_RM_make : Con y_RM_make b_RM_make 10 (some .boolean) dd_RM_make 0 0 false sp_RM_make) (hdd_RM_make : dd_RM_make + 1 ≤ dd) {l1 l2 l3 x_thrown x_nodes x_room x_states x_kinds x_rules x_numberings x_wholes x_gone x_steps x_old x_stuck x_answer x_badWhole x_same x_at : Int32} {x_event x_rows : Nat → Int32} {c1 c3 c4 c5 c6 c7 c8 c10 c11 c12 c13 c14 c15 c16 c17 c18 : am_C}
    (h : vp_in l3 40 ∧ (¬ (x_event l3.toNatClampNeg) = ((-1)) → AW X 44 [some (aR 0), some (aI l1), some (aI l2), some (aI l3), some (aI 0), some (aI 0), none, none] [] [oC 5 [aI x_thrown, aI x_nodes, aI x_room, aI x_states, aI x_kinds, aI x_rules, aR 1, aR 2, aR 3, aR 4, aR 5, aR 6, aR 7, aR 8, aI x_numberings, aI x_wholes, aI x_gone, aI x_steps, aI x_old, aI x_stuck, aI x_answer, aI x_badWhole, aR 9, aR 10, aR 11, aR 12, aR 13, aR 14, aR 15, aR 16, aR 17, aR 18, aI x_same, aI x_at], c1, iC 40 x_event, c3, c4, c5, c6, c7, c8, iC 98304 x_rows, c10, c11, c12, c13, c14, c15, c16, c17, c18] bc bs) ∧ ((x_event l3.toNatClampNeg) = ((-1)) → sp_RM_make [aR 0, aI l1, aI l2, aI l3, aI ((-1))] [oC 5 [aI x_thrown, aI x_nodes, aI x_room, aI x_states, aI x_kinds, aI x_rules, aR 1, aR 2, aR 3, aR 4, aR 5, aR 6, aR 7, aR 8, aI x_numberings, aI x_wholes, aI x_gone, aI x_steps, aI x_old, aI x_stuck, aI x_answer, aI x_badWhole, aR 9, aR 10, aR 11, aR 12, aR 13, aR 14, aR 15, aR 16, aR 17, aR 18, aI x_same, aI x_at], c1, iC 40 x_event, c3, c4, c5, c6, c7, c8, iC 98304 x_rows, c10, c11, c12, c13, c14, c15, c16, c17, c18] (fun rv w' => AW X 18 [some (aR 0), some (aI l1), none, some (aI l3), none, none, none, none] (rv.toList ++ []) w' bc bs))) :
    AW X 0 [some (aR 0), some (aI l1), some (aI l2), some (aI l3), none, none, none, none] [] [oC 5 [aI x_thrown, aI x_nodes, aI x_room, aI x_states, aI x_kinds, aI x_rules, aR 1, aR 2, aR 3, aR 4, aR 5, aR 6, aR 7, aR 8, aI x_numberings, aI x_wholes, aI x_gone, aI x_steps, aI x_old, aI x_stuck, aI x_answer, aI x_badWhole, aR 9, aR 10, aR 11, aR 12, aR 13, aR 14, aR 15, aR 16, aR 17, aR 18, aI x_same, aI x_at], c1, iC 40 x_event, c3, c4, c5, c6, c7, c8, iC 98304 x_rows, c10, c11, c12, c13, c14, c15, c16, c17, c18] bc bs := by
  refine aw_aload_n K d_RM_allSteps_0 rfl rfl ?_
  refine aw_getf K fd_RM_17 d_RM_allSteps_1 rfl rfl rfl ?_
  refine aw_iload_n K d_RM_allSteps_4 rfl rfl ?_
  refine aw_iald K d_RM_allSteps_5 rfl rfl h.1 ?_
  replace h := h.2
  refine aw_iconst K d_RM_allSteps_6 rfl (v := (-1)) (by decide) ?_
  refine aw_icmp_ne K d_RM_allSteps_7 (t := 38) (by decide) rfl (fun q => ?_) (fun q => ?_)
  · replace h := h.1 q
    refine aw_iconst K d_RM_allSteps_38 rfl (v := 0) (by decide) ?_
    refine aw_istore K d_RM_allSteps_39 rfl (by decide) (lv' := [some (aR 0), some (aI l1), some (aI l2), some (aI l3), some (aI 0), none, none, none]) rfl ?_
    refine aw_iconst K d_RM_allSteps_41 rfl (v := 0) (by decide) ?_
    refine aw_istore K d_RM_allSteps_42 rfl (by decide) (lv' := [some (aR 0), some (aI l1), some (aI l2), some (aI l3), some (aI 0), some (aI 0), none, none]) rfl ?_
    exact h
  · replace h := h.2 q
    refine aw_aload_n K d_RM_allSteps_10 rfl rfl ?_
    refine aw_iload_n K d_RM_allSteps_11 rfl rfl ?_
    refine aw_iload_n K d_RM_allSteps_12 rfl rfl ?_
    refine aw_iload_n K d_RM_allSteps_13 rfl rfl ?_
    refine aw_iconst K d_RM_allSteps_14 rfl (v := (-1)) (by decide) ?_
    refine aw_less [2] rfl ?_
    exact aw_callV K c_RM_make cb_RM_156 ci_RM_make cs_RM_make hdd_RM_make (k := 0) rfl rfl d_RM_allSteps_15 rfl (av := [aI l1, aI l2, aI l3, aI ((-1))]) rfl (Nat.le_of_ble_eq_true rfl) h (fun rv w' hF => hF)
set_option maxRecDepth 20000 in
theorem x_RM_allSteps_18 {X : am_X} {dd bc bs : Nat} (K : am_ok X b_RM_allSteps R_RM 8 dd) {post : Option am_V → List am_C → Prop} (hr : am_rt X (some .int) post) {sp_RM_step : am_S} {dd_RM_step : Nat} (c_RM_step : Con y_RM_step b_RM_step 3 (some .boolean) dd_RM_step 0 0 false sp_RM_step) (hdd_RM_step : dd_RM_step + 1 ≤ dd) {l1 l3 s0 x_thrown x_nodes x_room x_states x_kinds x_rules x_numberings x_wholes x_gone x_steps x_old x_stuck x_answer x_badWhole x_same x_at : Int32} {x_event x_rows : Nat → Int32} {c1 c3 c4 c5 c6 c7 c8 c10 c11 c12 c13 c14 c15 c16 c17 c18 : am_C}
    (h : (¬ s0 = 0 → sp_RM_step [aR 0, aI l1, aI l3] [oC 5 [aI x_thrown, aI x_nodes, aI x_room, aI x_states, aI x_kinds, aI x_rules, aR 1, aR 2, aR 3, aR 4, aR 5, aR 6, aR 7, aR 8, aI x_numberings, aI x_wholes, aI x_gone, aI x_steps, aI x_old, aI x_stuck, aI x_answer, aI x_badWhole, aR 9, aR 10, aR 11, aR 12, aR 13, aR 14, aR 15, aR 16, aR 17, aR 18, aI x_same, aI x_at], c1, iC 40 x_event, c3, c4, c5, c6, c7, c8, iC 98304 x_rows, c10, c11, c12, c13, c14, c15, c16, c17, c18] (fun rv w' => AW X 29 [none, none, none, none, none, none, none, none] (rv.toList ++ []) w' bc bs)) ∧ (s0 = 0 → post (some (aI 0)) [oC 5 [aI x_thrown, aI x_nodes, aI x_room, aI x_states, aI x_kinds, aI x_rules, aR 1, aR 2, aR 3, aR 4, aR 5, aR 6, aR 7, aR 8, aI x_numberings, aI x_wholes, aI x_gone, aI x_steps, aI x_old, aI x_stuck, aI x_answer, aI x_badWhole, aR 9, aR 10, aR 11, aR 12, aR 13, aR 14, aR 15, aR 16, aR 17, aR 18, aI x_same, aI x_at], c1, iC 40 x_event, c3, c4, c5, c6, c7, c8, iC 98304 x_rows, c10, c11, c12, c13, c14, c15, c16, c17, c18])) :
    AW X 18 [some (aR 0), some (aI l1), none, some (aI l3), none, none, none, none] [aI s0] [oC 5 [aI x_thrown, aI x_nodes, aI x_room, aI x_states, aI x_kinds, aI x_rules, aR 1, aR 2, aR 3, aR 4, aR 5, aR 6, aR 7, aR 8, aI x_numberings, aI x_wholes, aI x_gone, aI x_steps, aI x_old, aI x_stuck, aI x_answer, aI x_badWhole, aR 9, aR 10, aR 11, aR 12, aR 13, aR 14, aR 15, aR 16, aR 17, aR 18, aI x_same, aI x_at], c1, iC 40 x_event, c3, c4, c5, c6, c7, c8, iC 98304 x_rows, c10, c11, c12, c13, c14, c15, c16, c17, c18] bc bs := by
  refine aw_if_ne K d_RM_allSteps_18 (t := 23) (by decide) rfl (fun q => ?_) (fun q => ?_)
  · replace h := h.1 q
    refine aw_aload_n K d_RM_allSteps_23 rfl rfl ?_
    refine aw_iload_n K d_RM_allSteps_24 rfl rfl ?_
    refine aw_iload_n K d_RM_allSteps_25 rfl rfl ?_
    refine aw_less [0, 1, 3] rfl ?_
    exact aw_callV K c_RM_step cb_RM_160 ci_RM_step cs_RM_step hdd_RM_step (k := 0) rfl rfl d_RM_allSteps_26 rfl (av := [aI l1, aI l3]) rfl (Nat.le_of_ble_eq_true rfl) h (fun rv w' hF => hF)
  · replace h := h.2 q
    refine aw_iconst K d_RM_allSteps_21 rfl (v := 0) (by decide) ?_
    exact aw_iret K hr d_RM_allSteps_22 h
set_option maxRecDepth 20000 in
theorem x_RM_allSteps_29 {X : am_X} {dd bc bs : Nat} (K : am_ok X b_RM_allSteps R_RM 8 dd) {post : Option am_V → List am_C → Prop} (hr : am_rt X (some .int) post) {s0 x_thrown x_nodes x_room x_states x_kinds x_rules x_numberings x_wholes x_gone x_steps x_old x_stuck x_answer x_badWhole x_same x_at : Int32} {x_event x_rows : Nat → Int32} {c1 c3 c4 c5 c6 c7 c8 c10 c11 c12 c13 c14 c15 c16 c17 c18 : am_C}
    (h : (s0 = 0 → post (some (aI ((-1)))) [oC 5 [aI x_thrown, aI x_nodes, aI x_room, aI x_states, aI x_kinds, aI x_rules, aR 1, aR 2, aR 3, aR 4, aR 5, aR 6, aR 7, aR 8, aI x_numberings, aI x_wholes, aI x_gone, aI x_steps, aI x_old, aI x_stuck, aI x_answer, aI x_badWhole, aR 9, aR 10, aR 11, aR 12, aR 13, aR 14, aR 15, aR 16, aR 17, aR 18, aI x_same, aI x_at], c1, iC 40 x_event, c3, c4, c5, c6, c7, c8, iC 98304 x_rows, c10, c11, c12, c13, c14, c15, c16, c17, c18]) ∧ (¬ s0 = 0 → post (some (aI 1)) [oC 5 [aI x_thrown, aI x_nodes, aI x_room, aI x_states, aI x_kinds, aI x_rules, aR 1, aR 2, aR 3, aR 4, aR 5, aR 6, aR 7, aR 8, aI x_numberings, aI x_wholes, aI x_gone, aI x_steps, aI x_old, aI x_stuck, aI x_answer, aI x_badWhole, aR 9, aR 10, aR 11, aR 12, aR 13, aR 14, aR 15, aR 16, aR 17, aR 18, aI x_same, aI x_at], c1, iC 40 x_event, c3, c4, c5, c6, c7, c8, iC 98304 x_rows, c10, c11, c12, c13, c14, c15, c16, c17, c18])) :
    AW X 29 [none, none, none, none, none, none, none, none] [aI s0] [oC 5 [aI x_thrown, aI x_nodes, aI x_room, aI x_states, aI x_kinds, aI x_rules, aR 1, aR 2, aR 3, aR 4, aR 5, aR 6, aR 7, aR 8, aI x_numberings, aI x_wholes, aI x_gone, aI x_steps, aI x_old, aI x_stuck, aI x_answer, aI x_badWhole, aR 9, aR 10, aR 11, aR 12, aR 13, aR 14, aR 15, aR 16, aR 17, aR 18, aI x_same, aI x_at], c1, iC 40 x_event, c3, c4, c5, c6, c7, c8, iC 98304 x_rows, c10, c11, c12, c13, c14, c15, c16, c17, c18] bc bs := by
  refine aw_if_eq K d_RM_allSteps_29 (t := 36) (by decide) rfl (fun q => ?_) (fun q => ?_)
  · replace h := h.1 q
    refine aw_iconst K d_RM_allSteps_36 rfl (v := (-1)) (by decide) ?_
    exact aw_iret K hr d_RM_allSteps_37 h
  · replace h := h.2 q
    refine aw_iconst K d_RM_allSteps_32 rfl (v := 1) (by decide) ?_
    refine aw_goto K d_RM_allSteps_33 (n := 37) (by decide) ?_
    exact aw_iret K hr d_RM_allSteps_37 h
set_option maxRecDepth 20000 in
theorem x_RM_allSteps_44 {X : am_X} {dd bc bs : Nat} (K : am_ok X b_RM_allSteps R_RM 8 dd) {post : Option am_V → List am_C → Prop} (hr : am_rt X (some .int) post) {l1 l2 l3 l4 l5 x_thrown x_nodes x_room x_states x_kinds x_rules x_numberings x_wholes x_gone x_steps x_old x_stuck x_answer x_badWhole x_same x_at : Int32} {x_event x_rows : Nat → Int32} {c1 c3 c4 c5 c6 c7 c8 c10 c11 c12 c13 c14 c15 c16 c17 c18 : am_C}
    (h : vp_in (((12 : Int32) * l1) + (4 : Int32)) 98304 ∧ ((x_rows (((12 : Int32) * l1) + (4 : Int32)).toNatClampNeg) ≤ l5 → post (some (aI l4)) [oC 5 [aI x_thrown, aI x_nodes, aI x_room, aI x_states, aI x_kinds, aI x_rules, aR 1, aR 2, aR 3, aR 4, aR 5, aR 6, aR 7, aR 8, aI x_numberings, aI x_wholes, aI x_gone, aI x_steps, aI x_old, aI x_stuck, aI x_answer, aI x_badWhole, aR 9, aR 10, aR 11, aR 12, aR 13, aR 14, aR 15, aR 16, aR 17, aR 18, aI x_same, aI x_at], c1, iC 40 x_event, c3, c4, c5, c6, c7, c8, iC 98304 x_rows, c10, c11, c12, c13, c14, c15, c16, c17, c18]) ∧ (¬ (x_rows (((12 : Int32) * l1) + (4 : Int32)).toNatClampNeg) ≤ l5 → vp_in ((((12 : Int32) * l1) + (5 : Int32)) + l5) 98304 ∧ (l5 ≤ 0 → AW X 104 [some (aR 0), some (aI l1), some (aI l2), some (aI l3), some (aI l4), some (aI l5), some (aI (x_rows ((((12 : Int32) * l1) + (5 : Int32)) + l5).toNatClampNeg)), none] [] [oC 5 [aI x_thrown, aI x_nodes, aI x_room, aI x_states, aI x_kinds, aI x_rules, aR 1, aR 2, aR 3, aR 4, aR 5, aR 6, aR 7, aR 8, aI x_numberings, aI x_wholes, aI x_gone, aI x_steps, aI x_old, aI x_stuck, aI x_answer, aI x_badWhole, aR 9, aR 10, aR 11, aR 12, aR 13, aR 14, aR 15, aR 16, aR 17, aR 18, aI x_same, aI x_at], c1, iC 40 x_event, c3, c4, c5, c6, c7, c8, iC 98304 x_rows, c10, c11, c12, c13, c14, c15, c16, c17, c18] bc bs) ∧ (¬ l5 ≤ 0 → vp_in ((((12 : Int32) * l1) + (4 : Int32)) + l5) 98304 ∧ (¬ (x_rows ((((12 : Int32) * l1) + (4 : Int32)) + l5).toNatClampNeg) = (x_rows ((((12 : Int32) * l1) + (5 : Int32)) + l5).toNatClampNeg) → AW X 104 [some (aR 0), some (aI l1), some (aI l2), some (aI l3), some (aI l4), some (aI l5), some (aI (x_rows ((((12 : Int32) * l1) + (5 : Int32)) + l5).toNatClampNeg)), none] [] [oC 5 [aI x_thrown, aI x_nodes, aI x_room, aI x_states, aI x_kinds, aI x_rules, aR 1, aR 2, aR 3, aR 4, aR 5, aR 6, aR 7, aR 8, aI x_numberings, aI x_wholes, aI x_gone, aI x_steps, aI x_old, aI x_stuck, aI x_answer, aI x_badWhole, aR 9, aR 10, aR 11, aR 12, aR 13, aR 14, aR 15, aR 16, aR 17, aR 18, aI x_same, aI x_at], c1, iC 40 x_event, c3, c4, c5, c6, c7, c8, iC 98304 x_rows, c10, c11, c12, c13, c14, c15, c16, c17, c18] bc bs) ∧ ((x_rows ((((12 : Int32) * l1) + (4 : Int32)) + l5).toNatClampNeg) = (x_rows ((((12 : Int32) * l1) + (5 : Int32)) + l5).toNatClampNeg) → AW X 105 [some (aR 0), some (aI l1), some (aI l2), some (aI l3), some (aI l4), some (aI l5), some (aI (x_rows ((((12 : Int32) * l1) + (5 : Int32)) + l5).toNatClampNeg)), none] [aI 1] [oC 5 [aI x_thrown, aI x_nodes, aI x_room, aI x_states, aI x_kinds, aI x_rules, aR 1, aR 2, aR 3, aR 4, aR 5, aR 6, aR 7, aR 8, aI x_numberings, aI x_wholes, aI x_gone, aI x_steps, aI x_old, aI x_stuck, aI x_answer, aI x_badWhole, aR 9, aR 10, aR 11, aR 12, aR 13, aR 14, aR 15, aR 16, aR 17, aR 18, aI x_same, aI x_at], c1, iC 40 x_event, c3, c4, c5, c6, c7, c8, iC 98304 x_rows, c10, c11, c12, c13, c14, c15, c16, c17, c18] bc bs)))) :
    AW X 44 [some (aR 0), some (aI l1), some (aI l2), some (aI l3), some (aI l4), some (aI l5), none, none] [] [oC 5 [aI x_thrown, aI x_nodes, aI x_room, aI x_states, aI x_kinds, aI x_rules, aR 1, aR 2, aR 3, aR 4, aR 5, aR 6, aR 7, aR 8, aI x_numberings, aI x_wholes, aI x_gone, aI x_steps, aI x_old, aI x_stuck, aI x_answer, aI x_badWhole, aR 9, aR 10, aR 11, aR 12, aR 13, aR 14, aR 15, aR 16, aR 17, aR 18, aI x_same, aI x_at], c1, iC 40 x_event, c3, c4, c5, c6, c7, c8, iC 98304 x_rows, c10, c11, c12, c13, c14, c15, c16, c17, c18] bc bs := by
  refine aw_iload K d_RM_allSteps_44 rfl rfl ?_
  refine aw_aload_n K d_RM_allSteps_46 rfl rfl ?_
  refine aw_getf K fd_RM_40 d_RM_allSteps_47 rfl rfl rfl ?_
  refine aw_bipush K d_RM_allSteps_50 rfl (v := 12) (by decide) ?_
  refine aw_iload_n K d_RM_allSteps_52 rfl rfl ?_
  refine aw_imul K d_RM_allSteps_53 rfl ?_
  refine aw_iconst K d_RM_allSteps_54 rfl (v := 4) (by decide) ?_
  refine aw_iadd K d_RM_allSteps_55 rfl ?_
  refine aw_iald K d_RM_allSteps_56 rfl rfl h.1 ?_
  replace h := h.2
  refine aw_icmp_ge K d_RM_allSteps_57 (t := 169) (by decide) rfl (fun q => ?_) (fun q => ?_)
  · replace h := h.1 q
    refine aw_iload K d_RM_allSteps_169 rfl rfl ?_
    exact aw_iret K hr d_RM_allSteps_171 h
  · replace h := h.2 q
    refine aw_aload_n K d_RM_allSteps_60 rfl rfl ?_
    refine aw_getf K fd_RM_40 d_RM_allSteps_61 rfl rfl rfl ?_
    refine aw_bipush K d_RM_allSteps_64 rfl (v := 12) (by decide) ?_
    refine aw_iload_n K d_RM_allSteps_66 rfl rfl ?_
    refine aw_imul K d_RM_allSteps_67 rfl ?_
    refine aw_iconst K d_RM_allSteps_68 rfl (v := 5) (by decide) ?_
    refine aw_iadd K d_RM_allSteps_69 rfl ?_
    refine aw_iload K d_RM_allSteps_70 rfl rfl ?_
    refine aw_iadd K d_RM_allSteps_72 rfl ?_
    refine aw_iald K d_RM_allSteps_73 rfl rfl h.1 ?_
    replace h := h.2
    refine aw_istore K d_RM_allSteps_74 rfl (by decide) (lv' := [some (aR 0), some (aI l1), some (aI l2), some (aI l3), some (aI l4), some (aI l5), some (aI (x_rows ((((12 : Int32) * l1) + (5 : Int32)) + l5).toNatClampNeg)), none]) rfl ?_
    refine aw_iload K d_RM_allSteps_76 rfl rfl ?_
    refine aw_if_le K d_RM_allSteps_78 (t := 104) (by decide) rfl (fun q => ?_) (fun q => ?_)
    · replace h := h.1 q
      exact h
    · replace h := h.2 q
      refine aw_aload_n K d_RM_allSteps_81 rfl rfl ?_
      refine aw_getf K fd_RM_40 d_RM_allSteps_82 rfl rfl rfl ?_
      refine aw_bipush K d_RM_allSteps_85 rfl (v := 12) (by decide) ?_
      refine aw_iload_n K d_RM_allSteps_87 rfl rfl ?_
      refine aw_imul K d_RM_allSteps_88 rfl ?_
      refine aw_iconst K d_RM_allSteps_89 rfl (v := 4) (by decide) ?_
      refine aw_iadd K d_RM_allSteps_90 rfl ?_
      refine aw_iload K d_RM_allSteps_91 rfl rfl ?_
      refine aw_iadd K d_RM_allSteps_93 rfl ?_
      refine aw_iald K d_RM_allSteps_94 rfl rfl h.1 ?_
      replace h := h.2
      refine aw_iload K d_RM_allSteps_95 rfl rfl ?_
      refine aw_icmp_ne K d_RM_allSteps_97 (t := 104) (by decide) rfl (fun q => ?_) (fun q => ?_)
      · replace h := h.1 q
        exact h
      · replace h := h.2 q
        refine aw_iconst K d_RM_allSteps_100 rfl (v := 1) (by decide) ?_
        refine aw_goto K d_RM_allSteps_101 (n := 105) (by decide) ?_
        exact h
set_option maxRecDepth 20000 in
theorem x_RM_allSteps_104 {X : am_X} {dd bc bs : Nat} (K : am_ok X b_RM_allSteps R_RM 8 dd) {post : Option am_V → List am_C → Prop} (hr : am_rt X (some .int) post) {l1 l2 l3 l4 l5 l6 x_thrown x_nodes x_room x_states x_kinds x_rules x_numberings x_wholes x_gone x_steps x_old x_stuck x_answer x_badWhole x_same x_at : Int32} {x_event x_rows : Nat → Int32} {c1 c3 c4 c5 c6 c7 c8 c10 c11 c12 c13 c14 c15 c16 c17 c18 : am_C}
    (h : AW X 105 [some (aR 0), some (aI l1), some (aI l2), some (aI l3), some (aI l4), some (aI l5), some (aI l6), none] [aI 0] [oC 5 [aI x_thrown, aI x_nodes, aI x_room, aI x_states, aI x_kinds, aI x_rules, aR 1, aR 2, aR 3, aR 4, aR 5, aR 6, aR 7, aR 8, aI x_numberings, aI x_wholes, aI x_gone, aI x_steps, aI x_old, aI x_stuck, aI x_answer, aI x_badWhole, aR 9, aR 10, aR 11, aR 12, aR 13, aR 14, aR 15, aR 16, aR 17, aR 18, aI x_same, aI x_at], c1, iC 40 x_event, c3, c4, c5, c6, c7, c8, iC 98304 x_rows, c10, c11, c12, c13, c14, c15, c16, c17, c18] bc bs) :
    AW X 104 [some (aR 0), some (aI l1), some (aI l2), some (aI l3), some (aI l4), some (aI l5), some (aI l6), none] [] [oC 5 [aI x_thrown, aI x_nodes, aI x_room, aI x_states, aI x_kinds, aI x_rules, aR 1, aR 2, aR 3, aR 4, aR 5, aR 6, aR 7, aR 8, aI x_numberings, aI x_wholes, aI x_gone, aI x_steps, aI x_old, aI x_stuck, aI x_answer, aI x_badWhole, aR 9, aR 10, aR 11, aR 12, aR 13, aR 14, aR 15, aR 16, aR 17, aR 18, aI x_same, aI x_at], c1, iC 40 x_event, c3, c4, c5, c6, c7, c8, iC 98304 x_rows, c10, c11, c12, c13, c14, c15, c16, c17, c18] bc bs := by
  refine aw_iconst K d_RM_allSteps_104 rfl (v := 0) (by decide) ?_
  exact h
set_option maxRecDepth 20000 in
theorem x_RM_allSteps_105 {X : am_X} {dd bc bs : Nat} (K : am_ok X b_RM_allSteps R_RM 8 dd) {post : Option am_V → List am_C → Prop} (hr : am_rt X (some .int) post) {sp_RM_make : am_S} {dd_RM_make : Nat} (c_RM_make : Con y_RM_make b_RM_make 10 (some .boolean) dd_RM_make 0 0 false sp_RM_make) (hdd_RM_make : dd_RM_make + 1 ≤ dd) {l1 l2 l3 l4 l5 l6 s0 x_thrown x_nodes x_room x_states x_kinds x_rules x_numberings x_wholes x_gone x_steps x_old x_stuck x_answer x_badWhole x_same x_at : Int32} {x_event x_rows : Nat → Int32} {c1 c3 c4 c5 c6 c7 c8 c10 c11 c12 c13 c14 c15 c16 c17 c18 : am_C}
    (h : (¬ s0 = 0 → AW X 44 [some (aR 0), some (aI l1), some (aI l2), some (aI l3), some (aI l4), some (aI (l5 + 1)), none, none] [] [oC 5 [aI x_thrown, aI x_nodes, aI x_room, aI x_states, aI x_kinds, aI x_rules, aR 1, aR 2, aR 3, aR 4, aR 5, aR 6, aR 7, aR 8, aI x_numberings, aI x_wholes, aI x_gone, aI x_steps, aI x_old, aI x_stuck, aI x_answer, aI x_badWhole, aR 9, aR 10, aR 11, aR 12, aR 13, aR 14, aR 15, aR 16, aR 17, aR 18, aI x_same, aI x_at], c1, iC 40 x_event, c3, c4, c5, c6, c7, c8, iC 98304 x_rows, c10, c11, c12, c13, c14, c15, c16, c17, c18] bc bs) ∧ (s0 = 0 → vp_in l3 40 ∧ (¬ (l6 / (16 : Int32)) = (x_event l3.toNatClampNeg) → AW X 44 [some (aR 0), some (aI l1), some (aI l2), some (aI l3), some (aI l4), some (aI (l5 + 1)), none, none] [] [oC 5 [aI x_thrown, aI x_nodes, aI x_room, aI x_states, aI x_kinds, aI x_rules, aR 1, aR 2, aR 3, aR 4, aR 5, aR 6, aR 7, aR 8, aI x_numberings, aI x_wholes, aI x_gone, aI x_steps, aI x_old, aI x_stuck, aI x_answer, aI x_badWhole, aR 9, aR 10, aR 11, aR 12, aR 13, aR 14, aR 15, aR 16, aR 17, aR 18, aI x_same, aI x_at], c1, iC 40 x_event, c3, c4, c5, c6, c7, c8, iC 98304 x_rows, c10, c11, c12, c13, c14, c15, c16, c17, c18] bc bs) ∧ ((l6 / (16 : Int32)) = (x_event l3.toNatClampNeg) → (¬ (l6 - l6 / (4 : Int32) * (4 : Int32)) = l2 → AW X 44 [some (aR 0), some (aI l1), some (aI l2), some (aI l3), some (aI l4), some (aI (l5 + 1)), none, none] [] [oC 5 [aI x_thrown, aI x_nodes, aI x_room, aI x_states, aI x_kinds, aI x_rules, aR 1, aR 2, aR 3, aR 4, aR 5, aR 6, aR 7, aR 8, aI x_numberings, aI x_wholes, aI x_gone, aI x_steps, aI x_old, aI x_stuck, aI x_answer, aI x_badWhole, aR 9, aR 10, aR 11, aR 12, aR 13, aR 14, aR 15, aR 16, aR 17, aR 18, aI x_same, aI x_at], c1, iC 40 x_event, c3, c4, c5, c6, c7, c8, iC 98304 x_rows, c10, c11, c12, c13, c14, c15, c16, c17, c18] bc bs) ∧ ((l6 - l6 / (4 : Int32) * (4 : Int32)) = l2 → sp_RM_make [aR 0, aI l1, aI l2, aI l3, aI l6] [oC 5 [aI x_thrown, aI x_nodes, aI x_room, aI x_states, aI x_kinds, aI x_rules, aR 1, aR 2, aR 3, aR 4, aR 5, aR 6, aR 7, aR 8, aI x_numberings, aI x_wholes, aI x_gone, aI x_steps, aI x_old, aI x_stuck, aI x_answer, aI x_badWhole, aR 9, aR 10, aR 11, aR 12, aR 13, aR 14, aR 15, aR 16, aR 17, aR 18, aI x_same, aI x_at], c1, iC 40 x_event, c3, c4, c5, c6, c7, c8, iC 98304 x_rows, c10, c11, c12, c13, c14, c15, c16, c17, c18] (fun rv w' => AW X 143 [some (aR 0), some (aI l1), some (aI l2), some (aI l3), some (aI l4), some (aI l5), none, none] (rv.toList ++ []) w' bc bs))))) :
    AW X 105 [some (aR 0), some (aI l1), some (aI l2), some (aI l3), some (aI l4), some (aI l5), some (aI l6), none] [aI s0] [oC 5 [aI x_thrown, aI x_nodes, aI x_room, aI x_states, aI x_kinds, aI x_rules, aR 1, aR 2, aR 3, aR 4, aR 5, aR 6, aR 7, aR 8, aI x_numberings, aI x_wholes, aI x_gone, aI x_steps, aI x_old, aI x_stuck, aI x_answer, aI x_badWhole, aR 9, aR 10, aR 11, aR 12, aR 13, aR 14, aR 15, aR 16, aR 17, aR 18, aI x_same, aI x_at], c1, iC 40 x_event, c3, c4, c5, c6, c7, c8, iC 98304 x_rows, c10, c11, c12, c13, c14, c15, c16, c17, c18] bc bs := by
  refine aw_istore K d_RM_allSteps_105 rfl (by decide) (lv' := [some (aR 0), some (aI l1), some (aI l2), some (aI l3), some (aI l4), some (aI l5), some (aI l6), some (aI s0)]) rfl ?_
  refine aw_iload K d_RM_allSteps_107 rfl rfl ?_
  refine aw_if_ne K d_RM_allSteps_109 (t := 163) (by decide) rfl (fun q => ?_) (fun q => ?_)
  · replace h := h.1 q
    refine aw_iinc K d_RM_allSteps_163 rfl rfl (v := l5 + 1) rfl (by decide) (lv' := [some (aR 0), some (aI l1), some (aI l2), some (aI l3), some (aI l4), some (aI (l5 + 1)), some (aI l6), some (aI s0)]) rfl ?_
    refine aw_goto K d_RM_allSteps_166 (n := 44) (by decide) ?_
    refine aw_less [6, 7] rfl ?_
    exact h
  · replace h := h.2 q
    refine aw_iload K d_RM_allSteps_112 rfl rfl ?_
    refine aw_bipush K d_RM_allSteps_114 rfl (v := 16) (by decide) ?_
    refine aw_idiv K d_RM_allSteps_116 rfl (by decide) ?_
    refine aw_aload_n K d_RM_allSteps_117 rfl rfl ?_
    refine aw_getf K fd_RM_17 d_RM_allSteps_118 rfl rfl rfl ?_
    refine aw_iload_n K d_RM_allSteps_121 rfl rfl ?_
    refine aw_iald K d_RM_allSteps_122 rfl rfl h.1 ?_
    replace h := h.2
    refine aw_icmp_ne K d_RM_allSteps_123 (t := 163) (by decide) rfl (fun q => ?_) (fun q => ?_)
    · replace h := h.1 q
      refine aw_iinc K d_RM_allSteps_163 rfl rfl (v := l5 + 1) rfl (by decide) (lv' := [some (aR 0), some (aI l1), some (aI l2), some (aI l3), some (aI l4), some (aI (l5 + 1)), some (aI l6), some (aI s0)]) rfl ?_
      refine aw_goto K d_RM_allSteps_166 (n := 44) (by decide) ?_
      refine aw_less [6, 7] rfl ?_
      exact h
    · replace h := h.2 q
      refine aw_iload K d_RM_allSteps_126 rfl rfl ?_
      refine aw_iconst K d_RM_allSteps_128 rfl (v := 4) (by decide) ?_
      refine aw_irem K d_RM_allSteps_129 rfl (by decide) ?_
      refine aw_iload_n K d_RM_allSteps_130 rfl rfl ?_
      refine aw_icmp_ne K d_RM_allSteps_131 (t := 163) (by decide) rfl (fun q => ?_) (fun q => ?_)
      · replace h := h.1 q
        refine aw_iinc K d_RM_allSteps_163 rfl rfl (v := l5 + 1) rfl (by decide) (lv' := [some (aR 0), some (aI l1), some (aI l2), some (aI l3), some (aI l4), some (aI (l5 + 1)), some (aI l6), some (aI s0)]) rfl ?_
        refine aw_goto K d_RM_allSteps_166 (n := 44) (by decide) ?_
        refine aw_less [6, 7] rfl ?_
        exact h
      · replace h := h.2 q
        refine aw_aload_n K d_RM_allSteps_134 rfl rfl ?_
        refine aw_iload_n K d_RM_allSteps_135 rfl rfl ?_
        refine aw_iload_n K d_RM_allSteps_136 rfl rfl ?_
        refine aw_iload_n K d_RM_allSteps_137 rfl rfl ?_
        refine aw_iload K d_RM_allSteps_138 rfl rfl ?_
        refine aw_less [6, 7] rfl ?_
        exact aw_callV K c_RM_make cb_RM_156 ci_RM_make cs_RM_make hdd_RM_make (k := 0) rfl rfl d_RM_allSteps_140 rfl (av := [aI l1, aI l2, aI l3, aI l6]) rfl (Nat.le_of_ble_eq_true rfl) h (fun rv w' hF => hF)
set_option maxRecDepth 20000 in
theorem x_RM_allSteps_143 {X : am_X} {dd bc bs : Nat} (K : am_ok X b_RM_allSteps R_RM 8 dd) {post : Option am_V → List am_C → Prop} (hr : am_rt X (some .int) post) {sp_RM_step : am_S} {dd_RM_step : Nat} (c_RM_step : Con y_RM_step b_RM_step 3 (some .boolean) dd_RM_step 0 0 false sp_RM_step) (hdd_RM_step : dd_RM_step + 1 ≤ dd) {l1 l2 l3 l4 l5 s0 x_thrown x_nodes x_room x_states x_kinds x_rules x_numberings x_wholes x_gone x_steps x_old x_stuck x_answer x_badWhole x_same x_at : Int32} {x_event x_rows : Nat → Int32} {c1 c3 c4 c5 c6 c7 c8 c10 c11 c12 c13 c14 c15 c16 c17 c18 : am_C}
    (h : (¬ s0 = 0 → sp_RM_step [aR 0, aI l1, aI l3] [oC 5 [aI x_thrown, aI x_nodes, aI x_room, aI x_states, aI x_kinds, aI x_rules, aR 1, aR 2, aR 3, aR 4, aR 5, aR 6, aR 7, aR 8, aI x_numberings, aI x_wholes, aI x_gone, aI x_steps, aI x_old, aI x_stuck, aI x_answer, aI x_badWhole, aR 9, aR 10, aR 11, aR 12, aR 13, aR 14, aR 15, aR 16, aR 17, aR 18, aI x_same, aI x_at], c1, iC 40 x_event, c3, c4, c5, c6, c7, c8, iC 98304 x_rows, c10, c11, c12, c13, c14, c15, c16, c17, c18] (fun rv w' => AW X 155 [some (aR 0), some (aI l1), some (aI l2), some (aI l3), some (aI l4), some (aI l5), none, none] (rv.toList ++ []) w' bc bs)) ∧ (s0 = 0 → AW X 44 [some (aR 0), some (aI l1), some (aI l2), some (aI l3), some (aI l4), some (aI (l5 + 1)), none, none] [] [oC 5 [aI x_thrown, aI x_nodes, aI x_room, aI x_states, aI x_kinds, aI x_rules, aR 1, aR 2, aR 3, aR 4, aR 5, aR 6, aR 7, aR 8, aI x_numberings, aI x_wholes, aI x_gone, aI x_steps, aI x_old, aI x_stuck, aI x_answer, aI x_badWhole, aR 9, aR 10, aR 11, aR 12, aR 13, aR 14, aR 15, aR 16, aR 17, aR 18, aI x_same, aI x_at], c1, iC 40 x_event, c3, c4, c5, c6, c7, c8, iC 98304 x_rows, c10, c11, c12, c13, c14, c15, c16, c17, c18] bc bs)) :
    AW X 143 [some (aR 0), some (aI l1), some (aI l2), some (aI l3), some (aI l4), some (aI l5), none, none] [aI s0] [oC 5 [aI x_thrown, aI x_nodes, aI x_room, aI x_states, aI x_kinds, aI x_rules, aR 1, aR 2, aR 3, aR 4, aR 5, aR 6, aR 7, aR 8, aI x_numberings, aI x_wholes, aI x_gone, aI x_steps, aI x_old, aI x_stuck, aI x_answer, aI x_badWhole, aR 9, aR 10, aR 11, aR 12, aR 13, aR 14, aR 15, aR 16, aR 17, aR 18, aI x_same, aI x_at], c1, iC 40 x_event, c3, c4, c5, c6, c7, c8, iC 98304 x_rows, c10, c11, c12, c13, c14, c15, c16, c17, c18] bc bs := by
  refine aw_if_ne K d_RM_allSteps_143 (t := 149) (by decide) rfl (fun q => ?_) (fun q => ?_)
  · replace h := h.1 q
    refine aw_aload_n K d_RM_allSteps_149 rfl rfl ?_
    refine aw_iload_n K d_RM_allSteps_150 rfl rfl ?_
    refine aw_iload_n K d_RM_allSteps_151 rfl rfl ?_
    exact aw_callV K c_RM_step cb_RM_160 ci_RM_step cs_RM_step hdd_RM_step (k := 0) rfl rfl d_RM_allSteps_152 rfl (av := [aI l1, aI l3]) rfl (Nat.le_of_ble_eq_true rfl) h (fun rv w' hF => hF)
  · replace h := h.2 q
    refine aw_goto K d_RM_allSteps_146 (n := 163) (by decide) ?_
    refine aw_iinc K d_RM_allSteps_163 rfl rfl (v := l5 + 1) rfl (by decide) (lv' := [some (aR 0), some (aI l1), some (aI l2), some (aI l3), some (aI l4), some (aI (l5 + 1)), none, none]) rfl ?_
    refine aw_goto K d_RM_allSteps_166 (n := 44) (by decide) ?_
    exact h
set_option maxRecDepth 20000 in
theorem x_RM_allSteps_155 {X : am_X} {dd bc bs : Nat} (K : am_ok X b_RM_allSteps R_RM 8 dd) {post : Option am_V → List am_C → Prop} (hr : am_rt X (some .int) post) {l1 l2 l3 l4 l5 s0 x_thrown x_nodes x_room x_states x_kinds x_rules x_numberings x_wholes x_gone x_steps x_old x_stuck x_answer x_badWhole x_same x_at : Int32} {x_event x_rows : Nat → Int32} {c1 c3 c4 c5 c6 c7 c8 c10 c11 c12 c13 c14 c15 c16 c17 c18 : am_C}
    (h : (¬ s0 = 0 → AW X 44 [some (aR 0), some (aI l1), some (aI l2), some (aI l3), some (aI (l4 + 1)), some (aI (l5 + 1)), none, none] [] [oC 5 [aI x_thrown, aI x_nodes, aI x_room, aI x_states, aI x_kinds, aI x_rules, aR 1, aR 2, aR 3, aR 4, aR 5, aR 6, aR 7, aR 8, aI x_numberings, aI x_wholes, aI x_gone, aI x_steps, aI x_old, aI x_stuck, aI x_answer, aI x_badWhole, aR 9, aR 10, aR 11, aR 12, aR 13, aR 14, aR 15, aR 16, aR 17, aR 18, aI x_same, aI x_at], c1, iC 40 x_event, c3, c4, c5, c6, c7, c8, iC 98304 x_rows, c10, c11, c12, c13, c14, c15, c16, c17, c18] bc bs) ∧ (s0 = 0 → post (some (aI ((-1)))) [oC 5 [aI x_thrown, aI x_nodes, aI x_room, aI x_states, aI x_kinds, aI x_rules, aR 1, aR 2, aR 3, aR 4, aR 5, aR 6, aR 7, aR 8, aI x_numberings, aI x_wholes, aI x_gone, aI x_steps, aI x_old, aI x_stuck, aI x_answer, aI x_badWhole, aR 9, aR 10, aR 11, aR 12, aR 13, aR 14, aR 15, aR 16, aR 17, aR 18, aI x_same, aI x_at], c1, iC 40 x_event, c3, c4, c5, c6, c7, c8, iC 98304 x_rows, c10, c11, c12, c13, c14, c15, c16, c17, c18])) :
    AW X 155 [some (aR 0), some (aI l1), some (aI l2), some (aI l3), some (aI l4), some (aI l5), none, none] [aI s0] [oC 5 [aI x_thrown, aI x_nodes, aI x_room, aI x_states, aI x_kinds, aI x_rules, aR 1, aR 2, aR 3, aR 4, aR 5, aR 6, aR 7, aR 8, aI x_numberings, aI x_wholes, aI x_gone, aI x_steps, aI x_old, aI x_stuck, aI x_answer, aI x_badWhole, aR 9, aR 10, aR 11, aR 12, aR 13, aR 14, aR 15, aR 16, aR 17, aR 18, aI x_same, aI x_at], c1, iC 40 x_event, c3, c4, c5, c6, c7, c8, iC 98304 x_rows, c10, c11, c12, c13, c14, c15, c16, c17, c18] bc bs := by
  refine aw_if_ne K d_RM_allSteps_155 (t := 160) (by decide) rfl (fun q => ?_) (fun q => ?_)
  · replace h := h.1 q
    refine aw_iinc K d_RM_allSteps_160 rfl rfl (v := l4 + 1) rfl (by decide) (lv' := [some (aR 0), some (aI l1), some (aI l2), some (aI l3), some (aI (l4 + 1)), some (aI l5), none, none]) rfl ?_
    refine aw_iinc K d_RM_allSteps_163 rfl rfl (v := l5 + 1) rfl (by decide) (lv' := [some (aR 0), some (aI l1), some (aI l2), some (aI l3), some (aI (l4 + 1)), some (aI (l5 + 1)), none, none]) rfl ?_
    refine aw_goto K d_RM_allSteps_166 (n := 44) (by decide) ?_
    exact h
  · replace h := h.2 q
    refine aw_iconst K d_RM_allSteps_158 rfl (v := (-1)) (by decide) ?_
    exact aw_iret K hr d_RM_allSteps_159 h
set_option maxRecDepth 20000 in
theorem x_RM_goThrough_0 {X : am_X} {dd bc bs : Nat} (K : am_ok X b_RM_goThrough R_RM 6 dd) {post : Option am_V → List am_C → Prop} (hr : am_rt X none post) {x_thrown x_nodes x_room x_states x_kinds x_rules x_numberings x_wholes x_gone x_steps x_old x_stuck x_answer x_badWhole x_same x_at : Int32} {x_from x_rows x_stepsOf : Nat → Int32} {c2 c3 c4 c5 c6 c7 c8 c10 c11 c12 c13 c15 c16 c17 c18 : am_C}
    (h : AW X 9 [some (aR 0), some (aI x_gone), some (aI 0), some (aI 0), none, none] [] [oC 5 [aI x_thrown, aI x_nodes, aI x_room, aI x_states, aI x_kinds, aI x_rules, aR 1, aR 2, aR 3, aR 4, aR 5, aR 6, aR 7, aR 8, aI x_numberings, aI x_wholes, aI x_gone, aI x_steps, aI x_old, aI x_stuck, aI x_answer, aI x_badWhole, aR 9, aR 10, aR 11, aR 12, aR 13, aR 14, aR 15, aR 16, aR 17, aR 18, aI x_same, aI x_at], iC 40 x_from, c2, c3, c4, c5, c6, c7, c8, iC 98304 x_rows, c10, c11, c12, c13, iC 8192 x_stepsOf, c15, c16, c17, c18] bc bs) :
    AW X 0 [some (aR 0), none, none, none, none, none] [] [oC 5 [aI x_thrown, aI x_nodes, aI x_room, aI x_states, aI x_kinds, aI x_rules, aR 1, aR 2, aR 3, aR 4, aR 5, aR 6, aR 7, aR 8, aI x_numberings, aI x_wholes, aI x_gone, aI x_steps, aI x_old, aI x_stuck, aI x_answer, aI x_badWhole, aR 9, aR 10, aR 11, aR 12, aR 13, aR 14, aR 15, aR 16, aR 17, aR 18, aI x_same, aI x_at], iC 40 x_from, c2, c3, c4, c5, c6, c7, c8, iC 98304 x_rows, c10, c11, c12, c13, iC 8192 x_stepsOf, c15, c16, c17, c18] bc bs := by
  refine aw_aload_n K d_RM_goThrough_0 rfl rfl ?_
  refine aw_getf K fd_RM_85 d_RM_goThrough_1 rfl rfl rfl ?_
  refine aw_istore_n K d_RM_goThrough_4 rfl (by decide) (lv' := [some (aR 0), some (aI x_gone), none, none, none, none]) rfl ?_
  refine aw_iconst K d_RM_goThrough_5 rfl (v := 0) (by decide) ?_
  refine aw_istore_n K d_RM_goThrough_6 rfl (by decide) (lv' := [some (aR 0), some (aI x_gone), some (aI 0), none, none, none]) rfl ?_
  refine aw_iconst K d_RM_goThrough_7 rfl (v := 0) (by decide) ?_
  refine aw_istore_n K d_RM_goThrough_8 rfl (by decide) (lv' := [some (aR 0), some (aI x_gone), some (aI 0), some (aI 0), none, none]) rfl ?_
  exact h
set_option maxRecDepth 20000 in
theorem x_RM_goThrough_9 {X : am_X} {dd bc bs : Nat} (K : am_ok X b_RM_goThrough R_RM 6 dd) {post : Option am_V → List am_C → Prop} (hr : am_rt X none post) {l1 l2 l3 x_thrown x_nodes x_room x_states x_kinds x_rules x_numberings x_wholes x_gone x_steps x_old x_stuck x_answer x_badWhole x_same x_at : Int32} {x_from x_rows x_stepsOf : Nat → Int32} {c2 c3 c4 c5 c6 c7 c8 c10 c11 c12 c13 c15 c16 c17 c18 : am_C}
    (h : (x_nodes ≤ l3 → vp_in l1 8192 ∧ (¬ l2 = 0 → AW X 107 [some (aR 0), none, none, none, none, none] [aI 0, aI x_stuck, aR 0] [oC 5 [aI x_thrown, aI x_nodes, aI x_room, aI x_states, aI x_kinds, aI x_rules, aR 1, aR 2, aR 3, aR 4, aR 5, aR 6, aR 7, aR 8, aI x_numberings, aI x_wholes, aI x_gone, aI x_steps, aI x_old, aI x_stuck, aI x_answer, aI x_badWhole, aR 9, aR 10, aR 11, aR 12, aR 13, aR 14, aR 15, aR 16, aR 17, aR 18, aI x_same, aI x_at], iC 40 x_from, c2, c3, c4, c5, c6, c7, c8, iC 98304 x_rows, c10, c11, c12, c13, iC 8192 (upd x_stepsOf l1.toNatClampNeg l2), c15, c16, c17, c18] bc bs) ∧ (l2 = 0 → AW X 107 [some (aR 0), none, none, none, none, none] [aI 1, aI x_stuck, aR 0] [oC 5 [aI x_thrown, aI x_nodes, aI x_room, aI x_states, aI x_kinds, aI x_rules, aR 1, aR 2, aR 3, aR 4, aR 5, aR 6, aR 7, aR 8, aI x_numberings, aI x_wholes, aI x_gone, aI x_steps, aI x_old, aI x_stuck, aI x_answer, aI x_badWhole, aR 9, aR 10, aR 11, aR 12, aR 13, aR 14, aR 15, aR 16, aR 17, aR 18, aI x_same, aI x_at], iC 40 x_from, c2, c3, c4, c5, c6, c7, c8, iC 98304 x_rows, c10, c11, c12, c13, iC 8192 (upd x_stepsOf l1.toNatClampNeg l2), c15, c16, c17, c18] bc bs)) ∧ (¬ x_nodes ≤ l3 → AW X 20 [some (aR 0), some (aI l1), some (aI l2), some (aI l3), some (aI 0), none] [] [oC 5 [aI x_thrown, aI x_nodes, aI x_room, aI x_states, aI x_kinds, aI x_rules, aR 1, aR 2, aR 3, aR 4, aR 5, aR 6, aR 7, aR 8, aI x_numberings, aI x_wholes, aI x_gone, aI x_steps, aI x_old, aI x_stuck, aI x_answer, aI x_badWhole, aR 9, aR 10, aR 11, aR 12, aR 13, aR 14, aR 15, aR 16, aR 17, aR 18, aI x_same, aI x_at], iC 40 x_from, c2, c3, c4, c5, c6, c7, c8, iC 98304 x_rows, c10, c11, c12, c13, iC 8192 x_stepsOf, c15, c16, c17, c18] bc bs)) :
    AW X 9 [some (aR 0), some (aI l1), some (aI l2), some (aI l3), none, none] [] [oC 5 [aI x_thrown, aI x_nodes, aI x_room, aI x_states, aI x_kinds, aI x_rules, aR 1, aR 2, aR 3, aR 4, aR 5, aR 6, aR 7, aR 8, aI x_numberings, aI x_wholes, aI x_gone, aI x_steps, aI x_old, aI x_stuck, aI x_answer, aI x_badWhole, aR 9, aR 10, aR 11, aR 12, aR 13, aR 14, aR 15, aR 16, aR 17, aR 18, aI x_same, aI x_at], iC 40 x_from, c2, c3, c4, c5, c6, c7, c8, iC 98304 x_rows, c10, c11, c12, c13, iC 8192 x_stepsOf, c15, c16, c17, c18] bc bs := by
  refine aw_iload_n K d_RM_goThrough_9 rfl rfl ?_
  refine aw_aload_n K d_RM_goThrough_10 rfl rfl ?_
  refine aw_getf K fd_RM_70 d_RM_goThrough_11 rfl rfl rfl ?_
  refine aw_icmp_ge K d_RM_goThrough_14 (t := 86) (by decide) rfl (fun q => ?_) (fun q => ?_)
  · replace h := h.1 q
    refine aw_aload_n K d_RM_goThrough_86 rfl rfl ?_
    refine aw_getf K fd_RM_55 d_RM_goThrough_87 rfl rfl rfl ?_
    refine aw_iload_n K d_RM_goThrough_90 rfl rfl ?_
    refine aw_iload_n K d_RM_goThrough_91 rfl rfl ?_
    refine aw_iast K d_RM_goThrough_92 rfl rfl h.1 (w' := [oC 5 [aI x_thrown, aI x_nodes, aI x_room, aI x_states, aI x_kinds, aI x_rules, aR 1, aR 2, aR 3, aR 4, aR 5, aR 6, aR 7, aR 8, aI x_numberings, aI x_wholes, aI x_gone, aI x_steps, aI x_old, aI x_stuck, aI x_answer, aI x_badWhole, aR 9, aR 10, aR 11, aR 12, aR 13, aR 14, aR 15, aR 16, aR 17, aR 18, aI x_same, aI x_at], iC 40 x_from, c2, c3, c4, c5, c6, c7, c8, iC 98304 x_rows, c10, c11, c12, c13, iC 8192 (upd x_stepsOf l1.toNatClampNeg l2), c15, c16, c17, c18]) rfl ?_
    replace h := h.2
    refine aw_aload_n K d_RM_goThrough_93 rfl rfl ?_
    refine aw_dup K d_RM_goThrough_94 rfl (fun _ e => nomatch e) ?_
    refine aw_getf K fd_RM_94 d_RM_goThrough_95 rfl rfl rfl ?_
    refine aw_iload_n K d_RM_goThrough_98 rfl rfl ?_
    refine aw_if_ne K d_RM_goThrough_99 (t := 106) (by decide) rfl (fun q => ?_) (fun q => ?_)
    · replace h := h.1 q
      refine aw_iconst K d_RM_goThrough_106 rfl (v := 0) (by decide) ?_
      refine aw_less [1, 2, 3] rfl ?_
      exact h
    · replace h := h.2 q
      refine aw_iconst K d_RM_goThrough_102 rfl (v := 1) (by decide) ?_
      refine aw_goto K d_RM_goThrough_103 (n := 107) (by decide) ?_
      refine aw_less [1, 2, 3] rfl ?_
      exact h
  · replace h := h.2 q
    refine aw_iconst K d_RM_goThrough_17 rfl (v := 0) (by decide) ?_
    refine aw_istore K d_RM_goThrough_18 rfl (by decide) (lv' := [some (aR 0), some (aI l1), some (aI l2), some (aI l3), some (aI 0), none]) rfl ?_
    exact h
set_option maxRecDepth 20000 in
theorem x_RM_goThrough_20 {X : am_X} {dd bc bs : Nat} (K : am_ok X b_RM_goThrough R_RM 6 dd) {post : Option am_V → List am_C → Prop} (hr : am_rt X none post) {sp_RM_allSteps : am_S} {dd_RM_allSteps : Nat} (c_RM_allSteps : Con y_RM_allSteps b_RM_allSteps 8 (some .int) dd_RM_allSteps 0 0 false sp_RM_allSteps) (hdd_RM_allSteps : dd_RM_allSteps + 1 ≤ dd) {l1 l2 l3 l4 x_thrown x_nodes x_room x_states x_kinds x_rules x_numberings x_wholes x_gone x_steps x_old x_stuck x_answer x_badWhole x_same x_at : Int32} {x_from x_rows x_stepsOf : Nat → Int32} {c2 c3 c4 c5 c6 c7 c8 c10 c11 c12 c13 c15 c16 c17 c18 : am_C}
    (h : (x_rules ≤ l4 → AW X 9 [some (aR 0), some (aI l1), some (aI l2), some (aI (l3 + 1)), none, none] [] [oC 5 [aI x_thrown, aI x_nodes, aI x_room, aI x_states, aI x_kinds, aI x_rules, aR 1, aR 2, aR 3, aR 4, aR 5, aR 6, aR 7, aR 8, aI x_numberings, aI x_wholes, aI x_gone, aI x_steps, aI x_old, aI x_stuck, aI x_answer, aI x_badWhole, aR 9, aR 10, aR 11, aR 12, aR 13, aR 14, aR 15, aR 16, aR 17, aR 18, aI x_same, aI x_at], iC 40 x_from, c2, c3, c4, c5, c6, c7, c8, iC 98304 x_rows, c10, c11, c12, c13, iC 8192 x_stepsOf, c15, c16, c17, c18] bc bs) ∧ (¬ x_rules ≤ l4 → vp_in (((12 : Int32) * l1) + l3) 98304 ∧ vp_in l4 40 ∧ ((x_rows (((12 : Int32) * l1) + l3).toNatClampNeg) = (x_from l4.toNatClampNeg) → sp_RM_allSteps [aR 0, aI l1, aI l3, aI l4] [oC 5 [aI x_thrown, aI x_nodes, aI x_room, aI x_states, aI x_kinds, aI x_rules, aR 1, aR 2, aR 3, aR 4, aR 5, aR 6, aR 7, aR 8, aI x_numberings, aI x_wholes, aI x_gone, aI x_steps, aI x_old, aI x_stuck, aI x_answer, aI x_badWhole, aR 9, aR 10, aR 11, aR 12, aR 13, aR 14, aR 15, aR 16, aR 17, aR 18, aI x_same, aI x_at], iC 40 x_from, c2, c3, c4, c5, c6, c7, c8, iC 98304 x_rows, c10, c11, c12, c13, iC 8192 x_stepsOf, c15, c16, c17, c18] (fun rv w' => AW X 61 [some (aR 0), some (aI l1), some (aI l2), some (aI l3), some (aI l4), none] (rv.toList ++ []) w' bc bs)) ∧ (¬ (x_rows (((12 : Int32) * l1) + l3).toNatClampNeg) = (x_from l4.toNatClampNeg) → AW X 20 [some (aR 0), some (aI l1), some (aI l2), some (aI l3), some (aI (l4 + 1)), none] [] [oC 5 [aI x_thrown, aI x_nodes, aI x_room, aI x_states, aI x_kinds, aI x_rules, aR 1, aR 2, aR 3, aR 4, aR 5, aR 6, aR 7, aR 8, aI x_numberings, aI x_wholes, aI x_gone, aI x_steps, aI x_old, aI x_stuck, aI x_answer, aI x_badWhole, aR 9, aR 10, aR 11, aR 12, aR 13, aR 14, aR 15, aR 16, aR 17, aR 18, aI x_same, aI x_at], iC 40 x_from, c2, c3, c4, c5, c6, c7, c8, iC 98304 x_rows, c10, c11, c12, c13, iC 8192 x_stepsOf, c15, c16, c17, c18] bc bs))) :
    AW X 20 [some (aR 0), some (aI l1), some (aI l2), some (aI l3), some (aI l4), none] [] [oC 5 [aI x_thrown, aI x_nodes, aI x_room, aI x_states, aI x_kinds, aI x_rules, aR 1, aR 2, aR 3, aR 4, aR 5, aR 6, aR 7, aR 8, aI x_numberings, aI x_wholes, aI x_gone, aI x_steps, aI x_old, aI x_stuck, aI x_answer, aI x_badWhole, aR 9, aR 10, aR 11, aR 12, aR 13, aR 14, aR 15, aR 16, aR 17, aR 18, aI x_same, aI x_at], iC 40 x_from, c2, c3, c4, c5, c6, c7, c8, iC 98304 x_rows, c10, c11, c12, c13, iC 8192 x_stepsOf, c15, c16, c17, c18] bc bs := by
  refine aw_iload K d_RM_goThrough_20 rfl rfl ?_
  refine aw_aload_n K d_RM_goThrough_22 rfl rfl ?_
  refine aw_getf K fd_RM_117 d_RM_goThrough_23 rfl rfl rfl ?_
  refine aw_icmp_ge K d_RM_goThrough_26 (t := 80) (by decide) rfl (fun q => ?_) (fun q => ?_)
  · replace h := h.1 q
    refine aw_iinc K d_RM_goThrough_80 rfl rfl (v := l3 + 1) rfl (by decide) (lv' := [some (aR 0), some (aI l1), some (aI l2), some (aI (l3 + 1)), some (aI l4), none]) rfl ?_
    refine aw_goto K d_RM_goThrough_83 (n := 9) (by decide) ?_
    refine aw_less [4] rfl ?_
    exact h
  · replace h := h.2 q
    refine aw_aload_n K d_RM_goThrough_29 rfl rfl ?_
    refine aw_getf K fd_RM_40 d_RM_goThrough_30 rfl rfl rfl ?_
    refine aw_bipush K d_RM_goThrough_33 rfl (v := 12) (by decide) ?_
    refine aw_iload_n K d_RM_goThrough_35 rfl rfl ?_
    refine aw_imul K d_RM_goThrough_36 rfl ?_
    refine aw_iload_n K d_RM_goThrough_37 rfl rfl ?_
    refine aw_iadd K d_RM_goThrough_38 rfl ?_
    refine aw_iald K d_RM_goThrough_39 rfl rfl h.1 ?_
    replace h := h.2
    refine aw_aload_n K d_RM_goThrough_40 rfl rfl ?_
    refine aw_getf K fd_RM_13 d_RM_goThrough_41 rfl rfl rfl ?_
    refine aw_iload K d_RM_goThrough_44 rfl rfl ?_
    refine aw_iald K d_RM_goThrough_46 rfl rfl h.1 ?_
    replace h := h.2
    refine aw_icmp_eq K d_RM_goThrough_47 (t := 53) (by decide) rfl (fun q => ?_) (fun q => ?_)
    · replace h := h.1 q
      refine aw_aload_n K d_RM_goThrough_53 rfl rfl ?_
      refine aw_iload_n K d_RM_goThrough_54 rfl rfl ?_
      refine aw_iload_n K d_RM_goThrough_55 rfl rfl ?_
      refine aw_iload K d_RM_goThrough_56 rfl rfl ?_
      exact aw_callV K c_RM_allSteps cb_RM_163 ci_RM_allSteps cs_RM_allSteps hdd_RM_allSteps (k := 0) rfl rfl d_RM_goThrough_58 rfl (av := [aI l1, aI l3, aI l4]) rfl (Nat.le_of_ble_eq_true rfl) h (fun rv w' hF => hF)
    · replace h := h.2 q
      refine aw_goto K d_RM_goThrough_50 (n := 74) (by decide) ?_
      refine aw_iinc K d_RM_goThrough_74 rfl rfl (v := l4 + 1) rfl (by decide) (lv' := [some (aR 0), some (aI l1), some (aI l2), some (aI l3), some (aI (l4 + 1)), none]) rfl ?_
      refine aw_goto K d_RM_goThrough_77 (n := 20) (by decide) ?_
      exact h
set_option maxRecDepth 20000 in
theorem x_RM_goThrough_61 {X : am_X} {dd bc bs : Nat} (K : am_ok X b_RM_goThrough R_RM 6 dd) {post : Option am_V → List am_C → Prop} (hr : am_rt X none post) {l1 l2 l3 l4 s0 x_thrown x_nodes x_room x_states x_kinds x_rules x_numberings x_wholes x_gone x_steps x_old x_stuck x_answer x_badWhole x_same x_at : Int32} {x_from x_rows x_stepsOf : Nat → Int32} {c2 c3 c4 c5 c6 c7 c8 c10 c11 c12 c13 c15 c16 c17 c18 : am_C}
    (h : (0 ≤ s0 → AW X 20 [some (aR 0), some (aI l1), some (aI (l2 + s0)), some (aI l3), some (aI (l4 + 1)), none] [] [oC 5 [aI x_thrown, aI x_nodes, aI x_room, aI x_states, aI x_kinds, aI x_rules, aR 1, aR 2, aR 3, aR 4, aR 5, aR 6, aR 7, aR 8, aI x_numberings, aI x_wholes, aI x_gone, aI x_steps, aI x_old, aI x_stuck, aI x_answer, aI x_badWhole, aR 9, aR 10, aR 11, aR 12, aR 13, aR 14, aR 15, aR 16, aR 17, aR 18, aI x_same, aI x_at], iC 40 x_from, c2, c3, c4, c5, c6, c7, c8, iC 98304 x_rows, c10, c11, c12, c13, iC 8192 x_stepsOf, c15, c16, c17, c18] bc bs) ∧ (¬ 0 ≤ s0 → post none [oC 5 [aI x_thrown, aI x_nodes, aI x_room, aI x_states, aI x_kinds, aI x_rules, aR 1, aR 2, aR 3, aR 4, aR 5, aR 6, aR 7, aR 8, aI x_numberings, aI x_wholes, aI x_gone, aI x_steps, aI x_old, aI x_stuck, aI x_answer, aI x_badWhole, aR 9, aR 10, aR 11, aR 12, aR 13, aR 14, aR 15, aR 16, aR 17, aR 18, aI x_same, aI x_at], iC 40 x_from, c2, c3, c4, c5, c6, c7, c8, iC 98304 x_rows, c10, c11, c12, c13, iC 8192 x_stepsOf, c15, c16, c17, c18])) :
    AW X 61 [some (aR 0), some (aI l1), some (aI l2), some (aI l3), some (aI l4), none] [aI s0] [oC 5 [aI x_thrown, aI x_nodes, aI x_room, aI x_states, aI x_kinds, aI x_rules, aR 1, aR 2, aR 3, aR 4, aR 5, aR 6, aR 7, aR 8, aI x_numberings, aI x_wholes, aI x_gone, aI x_steps, aI x_old, aI x_stuck, aI x_answer, aI x_badWhole, aR 9, aR 10, aR 11, aR 12, aR 13, aR 14, aR 15, aR 16, aR 17, aR 18, aI x_same, aI x_at], iC 40 x_from, c2, c3, c4, c5, c6, c7, c8, iC 98304 x_rows, c10, c11, c12, c13, iC 8192 x_stepsOf, c15, c16, c17, c18] bc bs := by
  refine aw_istore K d_RM_goThrough_61 rfl (by decide) (lv' := [some (aR 0), some (aI l1), some (aI l2), some (aI l3), some (aI l4), some (aI s0)]) rfl ?_
  refine aw_iload K d_RM_goThrough_63 rfl rfl ?_
  refine aw_if_ge K d_RM_goThrough_65 (t := 69) (by decide) rfl (fun q => ?_) (fun q => ?_)
  · replace h := h.1 q
    refine aw_iload_n K d_RM_goThrough_69 rfl rfl ?_
    refine aw_iload K d_RM_goThrough_70 rfl rfl ?_
    refine aw_iadd K d_RM_goThrough_72 rfl ?_
    refine aw_istore_n K d_RM_goThrough_73 rfl (by decide) (lv' := [some (aR 0), some (aI l1), some (aI (l2 + s0)), some (aI l3), some (aI l4), some (aI s0)]) rfl ?_
    refine aw_iinc K d_RM_goThrough_74 rfl rfl (v := l4 + 1) rfl (by decide) (lv' := [some (aR 0), some (aI l1), some (aI (l2 + s0)), some (aI l3), some (aI (l4 + 1)), some (aI s0)]) rfl ?_
    refine aw_goto K d_RM_goThrough_77 (n := 20) (by decide) ?_
    refine aw_less [5] rfl ?_
    exact h
  · replace h := h.2 q
    exact aw_vret K hr d_RM_goThrough_68 h
set_option maxRecDepth 20000 in
theorem x_RM_goThrough_107 {X : am_X} {dd bc bs : Nat} (K : am_ok X b_RM_goThrough R_RM 6 dd) {post : Option am_V → List am_C → Prop} (hr : am_rt X none post) {s0 s1 x_thrown x_nodes x_room x_states x_kinds x_rules x_numberings x_wholes x_gone x_steps x_old x_stuck x_answer x_badWhole x_same x_at : Int32} {x_from x_rows x_stepsOf : Nat → Int32} {c2 c3 c4 c5 c6 c7 c8 c10 c11 c12 c13 c15 c16 c17 c18 : am_C}
    (h : post none [oC 5 [aI x_thrown, aI x_nodes, aI x_room, aI x_states, aI x_kinds, aI x_rules, aR 1, aR 2, aR 3, aR 4, aR 5, aR 6, aR 7, aR 8, aI x_numberings, aI x_wholes, aI (x_gone + (1 : Int32)), aI x_steps, aI x_old, aI (s1 + s0), aI x_answer, aI x_badWhole, aR 9, aR 10, aR 11, aR 12, aR 13, aR 14, aR 15, aR 16, aR 17, aR 18, aI x_same, aI x_at], iC 40 x_from, c2, c3, c4, c5, c6, c7, c8, iC 98304 x_rows, c10, c11, c12, c13, iC 8192 x_stepsOf, c15, c16, c17, c18]) :
    AW X 107 [some (aR 0), none, none, none, none, none] [aI s0, aI s1, aR 0] [oC 5 [aI x_thrown, aI x_nodes, aI x_room, aI x_states, aI x_kinds, aI x_rules, aR 1, aR 2, aR 3, aR 4, aR 5, aR 6, aR 7, aR 8, aI x_numberings, aI x_wholes, aI x_gone, aI x_steps, aI x_old, aI x_stuck, aI x_answer, aI x_badWhole, aR 9, aR 10, aR 11, aR 12, aR 13, aR 14, aR 15, aR 16, aR 17, aR 18, aI x_same, aI x_at], iC 40 x_from, c2, c3, c4, c5, c6, c7, c8, iC 98304 x_rows, c10, c11, c12, c13, iC 8192 x_stepsOf, c15, c16, c17, c18] bc bs := by
  refine aw_iadd K d_RM_goThrough_107 rfl ?_
  refine aw_putf K fp_RM_94 d_RM_goThrough_108 rfl rfl (Nat.le_of_ble_eq_true rfl) (am_fit_i _) (w' := [oC 5 [aI x_thrown, aI x_nodes, aI x_room, aI x_states, aI x_kinds, aI x_rules, aR 1, aR 2, aR 3, aR 4, aR 5, aR 6, aR 7, aR 8, aI x_numberings, aI x_wholes, aI x_gone, aI x_steps, aI x_old, aI (s1 + s0), aI x_answer, aI x_badWhole, aR 9, aR 10, aR 11, aR 12, aR 13, aR 14, aR 15, aR 16, aR 17, aR 18, aI x_same, aI x_at], iC 40 x_from, c2, c3, c4, c5, c6, c7, c8, iC 98304 x_rows, c10, c11, c12, c13, iC 8192 x_stepsOf, c15, c16, c17, c18]) rfl ?_
  refine aw_aload_n K d_RM_goThrough_111 rfl rfl ?_
  refine aw_dup K d_RM_goThrough_112 rfl (fun _ e => nomatch e) ?_
  refine aw_getf K fd_RM_85 d_RM_goThrough_113 rfl rfl rfl ?_
  refine aw_iconst K d_RM_goThrough_116 rfl (v := 1) (by decide) ?_
  refine aw_iadd K d_RM_goThrough_117 rfl ?_
  refine aw_putf K fp_RM_85 d_RM_goThrough_118 rfl rfl (Nat.le_of_ble_eq_true rfl) (am_fit_i _) (w' := [oC 5 [aI x_thrown, aI x_nodes, aI x_room, aI x_states, aI x_kinds, aI x_rules, aR 1, aR 2, aR 3, aR 4, aR 5, aR 6, aR 7, aR 8, aI x_numberings, aI x_wholes, aI (x_gone + (1 : Int32)), aI x_steps, aI x_old, aI (s1 + s0), aI x_answer, aI x_badWhole, aR 9, aR 10, aR 11, aR 12, aR 13, aR 14, aR 15, aR 16, aR 17, aR 18, aI x_same, aI x_at], iC 40 x_from, c2, c3, c4, c5, c6, c7, c8, iC 98304 x_rows, c10, c11, c12, c13, iC 8192 x_stepsOf, c15, c16, c17, c18]) rfl ?_
  exact aw_vret K hr d_RM_goThrough_121 h
set_option maxRecDepth 20000 in
theorem x_RM_run_0 {X : am_X} {dd bc bs : Nat} (K : am_ok X b_RM_run R_RM 1 dd) {post : Option am_V → List am_C → Prop} (hr : am_rt X (some .int) post) {sp_RM_begin : am_S} {dd_RM_begin : Nat} (c_RM_begin : Con y_RM_begin b_RM_begin 2 none dd_RM_begin 0 0 false sp_RM_begin) (hdd_RM_begin : dd_RM_begin + 1 ≤ dd) {x_thrown x_nodes x_room x_states x_kinds x_rules x_numberings x_wholes x_gone x_steps x_old x_stuck x_answer x_badWhole x_same x_at : Int32} {c1 c2 c3 c4 c5 c6 c7 c8 c9 c10 c11 c12 c13 c14 c15 c16 c17 c18 : am_C}
    (h : sp_RM_begin [aR 0] [oC 5 [aI 0, aI x_nodes, aI x_room, aI x_states, aI x_kinds, aI x_rules, aR 1, aR 2, aR 3, aR 4, aR 5, aR 6, aR 7, aR 8, aI x_numberings, aI x_wholes, aI x_gone, aI x_steps, aI x_old, aI x_stuck, aI x_answer, aI x_badWhole, aR 9, aR 10, aR 11, aR 12, aR 13, aR 14, aR 15, aR 16, aR 17, aR 18, aI x_same, aI x_at], c1, c2, c3, c4, c5, c6, c7, c8, c9, c10, c11, c12, c13, c14, c15, c16, c17, c18] (fun rv w' => AW X 9 [some (aR 0)] (rv.toList ++ []) w' bc bs)) :
    AW X 0 [some (aR 0)] [] [oC 5 [aI x_thrown, aI x_nodes, aI x_room, aI x_states, aI x_kinds, aI x_rules, aR 1, aR 2, aR 3, aR 4, aR 5, aR 6, aR 7, aR 8, aI x_numberings, aI x_wholes, aI x_gone, aI x_steps, aI x_old, aI x_stuck, aI x_answer, aI x_badWhole, aR 9, aR 10, aR 11, aR 12, aR 13, aR 14, aR 15, aR 16, aR 17, aR 18, aI x_same, aI x_at], c1, c2, c3, c4, c5, c6, c7, c8, c9, c10, c11, c12, c13, c14, c15, c16, c17, c18] bc bs := by
  refine aw_aload_n K d_RM_run_0 rfl rfl ?_
  refine aw_iconst K d_RM_run_1 rfl (v := 0) (by decide) ?_
  refine aw_putf K fp_RM_79 d_RM_run_2 rfl rfl (Nat.le_of_ble_eq_true rfl) (am_fit_i _) (w' := [oC 5 [aI 0, aI x_nodes, aI x_room, aI x_states, aI x_kinds, aI x_rules, aR 1, aR 2, aR 3, aR 4, aR 5, aR 6, aR 7, aR 8, aI x_numberings, aI x_wholes, aI x_gone, aI x_steps, aI x_old, aI x_stuck, aI x_answer, aI x_badWhole, aR 9, aR 10, aR 11, aR 12, aR 13, aR 14, aR 15, aR 16, aR 17, aR 18, aI x_same, aI x_at], c1, c2, c3, c4, c5, c6, c7, c8, c9, c10, c11, c12, c13, c14, c15, c16, c17, c18]) rfl ?_
  refine aw_aload_n K d_RM_run_5 rfl rfl ?_
  exact aw_callV K c_RM_begin cb_RM_167 ci_RM_begin cs_RM_begin hdd_RM_begin (k := 0) rfl rfl d_RM_run_6 rfl (av := []) rfl (Nat.le_of_ble_eq_true rfl) h (fun rv w' hF => hF)
set_option maxRecDepth 20000 in
theorem x_RM_run_9 {X : am_X} {dd bc bs : Nat} (K : am_ok X b_RM_run R_RM 1 dd) {post : Option am_V → List am_C → Prop} (hr : am_rt X (some .int) post) {sp_RM_goThrough : am_S} {dd_RM_goThrough : Nat} (c_RM_goThrough : Con y_RM_goThrough b_RM_goThrough 6 none dd_RM_goThrough 0 0 false sp_RM_goThrough) (hdd_RM_goThrough : dd_RM_goThrough + 1 ≤ dd) {x_thrown x_nodes x_room x_states x_kinds x_rules x_numberings x_wholes x_gone x_steps x_old x_stuck x_answer x_badWhole x_same x_at : Int32} {c1 c2 c3 c4 c5 c6 c7 c8 c9 c10 c11 c12 c13 c14 c15 c16 c17 c18 : am_C}
    (h : (¬ x_answer = 0 → AW X 34 [some (aR 0)] [] [oC 5 [aI x_thrown, aI x_nodes, aI x_room, aI x_states, aI x_kinds, aI x_rules, aR 1, aR 2, aR 3, aR 4, aR 5, aR 6, aR 7, aR 8, aI x_numberings, aI x_wholes, aI x_gone, aI x_steps, aI x_old, aI x_stuck, aI x_answer, aI x_badWhole, aR 9, aR 10, aR 11, aR 12, aR 13, aR 14, aR 15, aR 16, aR 17, aR 18, aI x_same, aI x_at], c1, c2, c3, c4, c5, c6, c7, c8, c9, c10, c11, c12, c13, c14, c15, c16, c17, c18] bc bs) ∧ (x_answer = 0 → (x_wholes ≤ x_gone → AW X 34 [some (aR 0)] [] [oC 5 [aI x_thrown, aI x_nodes, aI x_room, aI x_states, aI x_kinds, aI x_rules, aR 1, aR 2, aR 3, aR 4, aR 5, aR 6, aR 7, aR 8, aI x_numberings, aI x_wholes, aI x_gone, aI x_steps, aI x_old, aI x_stuck, aI x_answer, aI x_badWhole, aR 9, aR 10, aR 11, aR 12, aR 13, aR 14, aR 15, aR 16, aR 17, aR 18, aI x_same, aI x_at], c1, c2, c3, c4, c5, c6, c7, c8, c9, c10, c11, c12, c13, c14, c15, c16, c17, c18] bc bs) ∧ (¬ x_wholes ≤ x_gone → sp_RM_goThrough [aR 0] [oC 5 [aI x_thrown, aI x_nodes, aI x_room, aI x_states, aI x_kinds, aI x_rules, aR 1, aR 2, aR 3, aR 4, aR 5, aR 6, aR 7, aR 8, aI x_numberings, aI x_wholes, aI x_gone, aI x_steps, aI x_old, aI x_stuck, aI x_answer, aI x_badWhole, aR 9, aR 10, aR 11, aR 12, aR 13, aR 14, aR 15, aR 16, aR 17, aR 18, aI x_same, aI x_at], c1, c2, c3, c4, c5, c6, c7, c8, c9, c10, c11, c12, c13, c14, c15, c16, c17, c18] (fun rv w' => AW X 31 [some (aR 0)] (rv.toList ++ []) w' bc bs)))) :
    AW X 9 [some (aR 0)] [] [oC 5 [aI x_thrown, aI x_nodes, aI x_room, aI x_states, aI x_kinds, aI x_rules, aR 1, aR 2, aR 3, aR 4, aR 5, aR 6, aR 7, aR 8, aI x_numberings, aI x_wholes, aI x_gone, aI x_steps, aI x_old, aI x_stuck, aI x_answer, aI x_badWhole, aR 9, aR 10, aR 11, aR 12, aR 13, aR 14, aR 15, aR 16, aR 17, aR 18, aI x_same, aI x_at], c1, c2, c3, c4, c5, c6, c7, c8, c9, c10, c11, c12, c13, c14, c15, c16, c17, c18] bc bs := by
  refine aw_aload_n K d_RM_run_9 rfl rfl ?_
  refine aw_getf K fd_RM_97 d_RM_run_10 rfl rfl rfl ?_
  refine aw_if_ne K d_RM_run_13 (t := 34) (by decide) rfl (fun q => ?_) (fun q => ?_)
  · replace h := h.1 q
    exact h
  · replace h := h.2 q
    refine aw_aload_n K d_RM_run_16 rfl rfl ?_
    refine aw_getf K fd_RM_85 d_RM_run_17 rfl rfl rfl ?_
    refine aw_aload_n K d_RM_run_20 rfl rfl ?_
    refine aw_getf K fd_RM_82 d_RM_run_21 rfl rfl rfl ?_
    refine aw_icmp_ge K d_RM_run_24 (t := 34) (by decide) rfl (fun q => ?_) (fun q => ?_)
    · replace h := h.1 q
      exact h
    · replace h := h.2 q
      refine aw_aload_n K d_RM_run_27 rfl rfl ?_
      exact aw_callV K c_RM_goThrough cb_RM_170 ci_RM_goThrough cs_RM_goThrough hdd_RM_goThrough (k := 0) rfl rfl d_RM_run_28 rfl (av := []) rfl (Nat.le_of_ble_eq_true rfl) h (fun rv w' hF => hF)
set_option maxRecDepth 20000 in
theorem x_RM_run_31 {X : am_X} {dd bc bs : Nat} (K : am_ok X b_RM_run R_RM 1 dd) {post : Option am_V → List am_C → Prop} (hr : am_rt X (some .int) post) {x_thrown x_nodes x_room x_states x_kinds x_rules x_numberings x_wholes x_gone x_steps x_old x_stuck x_answer x_badWhole x_same x_at : Int32} {c1 c2 c3 c4 c5 c6 c7 c8 c9 c10 c11 c12 c13 c14 c15 c16 c17 c18 : am_C}
    (h : AW X 9 [some (aR 0)] [] [oC 5 [aI x_thrown, aI x_nodes, aI x_room, aI x_states, aI x_kinds, aI x_rules, aR 1, aR 2, aR 3, aR 4, aR 5, aR 6, aR 7, aR 8, aI x_numberings, aI x_wholes, aI x_gone, aI x_steps, aI x_old, aI x_stuck, aI x_answer, aI x_badWhole, aR 9, aR 10, aR 11, aR 12, aR 13, aR 14, aR 15, aR 16, aR 17, aR 18, aI x_same, aI x_at], c1, c2, c3, c4, c5, c6, c7, c8, c9, c10, c11, c12, c13, c14, c15, c16, c17, c18] bc bs) :
    AW X 31 [some (aR 0)] [] [oC 5 [aI x_thrown, aI x_nodes, aI x_room, aI x_states, aI x_kinds, aI x_rules, aR 1, aR 2, aR 3, aR 4, aR 5, aR 6, aR 7, aR 8, aI x_numberings, aI x_wholes, aI x_gone, aI x_steps, aI x_old, aI x_stuck, aI x_answer, aI x_badWhole, aR 9, aR 10, aR 11, aR 12, aR 13, aR 14, aR 15, aR 16, aR 17, aR 18, aI x_same, aI x_at], c1, c2, c3, c4, c5, c6, c7, c8, c9, c10, c11, c12, c13, c14, c15, c16, c17, c18] bc bs := by
  refine aw_goto K d_RM_run_31 (n := 9) (by decide) ?_
  exact h
set_option maxRecDepth 20000 in
theorem x_RM_run_34 {X : am_X} {dd bc bs : Nat} (K : am_ok X b_RM_run R_RM 1 dd) {post : Option am_V → List am_C → Prop} (hr : am_rt X (some .int) post) {x_thrown x_nodes x_room x_states x_kinds x_rules x_numberings x_wholes x_gone x_steps x_old x_stuck x_answer x_badWhole x_same x_at : Int32} {c1 c2 c3 c4 c5 c6 c7 c8 c9 c10 c11 c12 c13 c14 c15 c16 c17 c18 : am_C}
    (h : (0 ≤ x_answer → post (some (aI x_wholes)) [oC 5 [aI x_thrown, aI x_nodes, aI x_room, aI x_states, aI x_kinds, aI x_rules, aR 1, aR 2, aR 3, aR 4, aR 5, aR 6, aR 7, aR 8, aI x_numberings, aI x_wholes, aI x_gone, aI x_steps, aI x_old, aI x_stuck, aI x_answer, aI x_badWhole, aR 9, aR 10, aR 11, aR 12, aR 13, aR 14, aR 15, aR 16, aR 17, aR 18, aI x_same, aI x_at], c1, c2, c3, c4, c5, c6, c7, c8, c9, c10, c11, c12, c13, c14, c15, c16, c17, c18]) ∧ (¬ 0 ≤ x_answer → post (some (aI x_answer)) [oC 5 [aI x_thrown, aI x_nodes, aI x_room, aI x_states, aI x_kinds, aI x_rules, aR 1, aR 2, aR 3, aR 4, aR 5, aR 6, aR 7, aR 8, aI x_numberings, aI x_wholes, aI x_gone, aI x_steps, aI x_old, aI x_stuck, aI x_answer, aI x_badWhole, aR 9, aR 10, aR 11, aR 12, aR 13, aR 14, aR 15, aR 16, aR 17, aR 18, aI x_same, aI x_at], c1, c2, c3, c4, c5, c6, c7, c8, c9, c10, c11, c12, c13, c14, c15, c16, c17, c18])) :
    AW X 34 [some (aR 0)] [] [oC 5 [aI x_thrown, aI x_nodes, aI x_room, aI x_states, aI x_kinds, aI x_rules, aR 1, aR 2, aR 3, aR 4, aR 5, aR 6, aR 7, aR 8, aI x_numberings, aI x_wholes, aI x_gone, aI x_steps, aI x_old, aI x_stuck, aI x_answer, aI x_badWhole, aR 9, aR 10, aR 11, aR 12, aR 13, aR 14, aR 15, aR 16, aR 17, aR 18, aI x_same, aI x_at], c1, c2, c3, c4, c5, c6, c7, c8, c9, c10, c11, c12, c13, c14, c15, c16, c17, c18] bc bs := by
  refine aw_aload_n K d_RM_run_34 rfl rfl ?_
  refine aw_getf K fd_RM_97 d_RM_run_35 rfl rfl rfl ?_
  refine aw_if_ge K d_RM_run_38 (t := 48) (by decide) rfl (fun q => ?_) (fun q => ?_)
  · replace h := h.1 q
    refine aw_aload_n K d_RM_run_48 rfl rfl ?_
    refine aw_getf K fd_RM_82 d_RM_run_49 rfl rfl rfl ?_
    exact aw_iret K hr d_RM_run_52 h
  · replace h := h.2 q
    refine aw_aload_n K d_RM_run_41 rfl rfl ?_
    refine aw_getf K fd_RM_97 d_RM_run_42 rfl rfl rfl ?_
    refine aw_goto K d_RM_run_45 (n := 52) (by decide) ?_
    exact aw_iret K hr d_RM_run_52 h
set_option maxRecDepth 20000 in
theorem x_RM_go_0 {X : am_X} {dd bc bs : Nat} (K : am_ok X b_RM_go R_RM 3 dd) {post : Option am_V → List am_C → Prop} (hr : am_rt X (some .int) post) {l1 x_thrown x_nodes x_room x_states x_kinds x_rules x_numberings x_wholes x_gone x_steps x_old x_stuck x_answer x_badWhole x_same x_at : Int32} {c1 c2 c3 c4 c5 c6 c7 c8 c9 c10 c11 c12 c13 c14 c15 c16 c17 c18 : am_C}
    (h : (l1 < 1 → AW X 13 [some (aR 0), some (aI l1), none] [aR 0] [oC 5 [aI x_thrown, aI x_nodes, aI x_room, aI x_states, aI x_kinds, aI x_rules, aR 1, aR 2, aR 3, aR 4, aR 5, aR 6, aR 7, aR 8, aI x_numberings, aI x_wholes, aI x_gone, aI x_steps, aI x_old, aI x_stuck, aI x_answer, aI x_badWhole, aR 9, aR 10, aR 11, aR 12, aR 13, aR 14, aR 15, aR 16, aR 17, aR 18, aI x_same, aI x_at], c1, c2, c3, c4, c5, c6, c7, c8, c9, c10, c11, c12, c13, c14, c15, c16, c17, c18] bc bs) ∧ (¬ l1 < 1 → (l1 ≤ 1000 → AW X 18 [some (aR 0), some (aI l1), none] [aI 0, aR 0] [oC 5 [aI x_thrown, aI x_nodes, aI x_room, aI x_states, aI x_kinds, aI x_rules, aR 1, aR 2, aR 3, aR 4, aR 5, aR 6, aR 7, aR 8, aI x_numberings, aI x_wholes, aI x_gone, aI x_steps, aI x_old, aI x_stuck, aI x_answer, aI x_badWhole, aR 9, aR 10, aR 11, aR 12, aR 13, aR 14, aR 15, aR 16, aR 17, aR 18, aI x_same, aI x_at], c1, c2, c3, c4, c5, c6, c7, c8, c9, c10, c11, c12, c13, c14, c15, c16, c17, c18] bc bs) ∧ (¬ l1 ≤ 1000 → AW X 13 [some (aR 0), some (aI l1), none] [aR 0] [oC 5 [aI x_thrown, aI x_nodes, aI x_room, aI x_states, aI x_kinds, aI x_rules, aR 1, aR 2, aR 3, aR 4, aR 5, aR 6, aR 7, aR 8, aI x_numberings, aI x_wholes, aI x_gone, aI x_steps, aI x_old, aI x_stuck, aI x_answer, aI x_badWhole, aR 9, aR 10, aR 11, aR 12, aR 13, aR 14, aR 15, aR 16, aR 17, aR 18, aI x_same, aI x_at], c1, c2, c3, c4, c5, c6, c7, c8, c9, c10, c11, c12, c13, c14, c15, c16, c17, c18] bc bs))) :
    AW X 0 [some (aR 0), some (aI l1), none] [] [oC 5 [aI x_thrown, aI x_nodes, aI x_room, aI x_states, aI x_kinds, aI x_rules, aR 1, aR 2, aR 3, aR 4, aR 5, aR 6, aR 7, aR 8, aI x_numberings, aI x_wholes, aI x_gone, aI x_steps, aI x_old, aI x_stuck, aI x_answer, aI x_badWhole, aR 9, aR 10, aR 11, aR 12, aR 13, aR 14, aR 15, aR 16, aR 17, aR 18, aI x_same, aI x_at], c1, c2, c3, c4, c5, c6, c7, c8, c9, c10, c11, c12, c13, c14, c15, c16, c17, c18] bc bs := by
  refine aw_aload_n K d_RM_go_0 rfl rfl ?_
  refine aw_iload_n K d_RM_go_1 rfl rfl ?_
  refine aw_iconst K d_RM_go_2 rfl (v := 1) (by decide) ?_
  refine aw_icmp_lt K d_RM_go_3 (t := 13) (by decide) rfl (fun q => ?_) (fun q => ?_)
  · replace h := h.1 q
    exact h
  · replace h := h.2 q
    refine aw_iload_n K d_RM_go_6 rfl rfl ?_
    refine aw_sipush K d_RM_go_7 rfl (v := 1000) (by decide) ?_
    refine aw_icmp_le K d_RM_go_10 (t := 17) (by decide) rfl (fun q => ?_) (fun q => ?_)
    · replace h := h.1 q
      refine aw_iconst K d_RM_go_17 rfl (v := 0) (by decide) ?_
      exact h
    · replace h := h.2 q
      exact h
set_option maxRecDepth 20000 in
theorem x_RM_go_13 {X : am_X} {dd bc bs : Nat} (K : am_ok X b_RM_go R_RM 3 dd) {post : Option am_V → List am_C → Prop} (hr : am_rt X (some .int) post) {l1 x_thrown x_nodes x_room x_states x_kinds x_rules x_numberings x_wholes x_gone x_steps x_old x_stuck x_answer x_badWhole x_same x_at : Int32} {c1 c2 c3 c4 c5 c6 c7 c8 c9 c10 c11 c12 c13 c14 c15 c16 c17 c18 : am_C}
    (h : AW X 18 [some (aR 0), some (aI l1), none] [aI 1, aR 0] [oC 5 [aI x_thrown, aI x_nodes, aI x_room, aI x_states, aI x_kinds, aI x_rules, aR 1, aR 2, aR 3, aR 4, aR 5, aR 6, aR 7, aR 8, aI x_numberings, aI x_wholes, aI x_gone, aI x_steps, aI x_old, aI x_stuck, aI x_answer, aI x_badWhole, aR 9, aR 10, aR 11, aR 12, aR 13, aR 14, aR 15, aR 16, aR 17, aR 18, aI x_same, aI x_at], c1, c2, c3, c4, c5, c6, c7, c8, c9, c10, c11, c12, c13, c14, c15, c16, c17, c18] bc bs) :
    AW X 13 [some (aR 0), some (aI l1), none] [aR 0] [oC 5 [aI x_thrown, aI x_nodes, aI x_room, aI x_states, aI x_kinds, aI x_rules, aR 1, aR 2, aR 3, aR 4, aR 5, aR 6, aR 7, aR 8, aI x_numberings, aI x_wholes, aI x_gone, aI x_steps, aI x_old, aI x_stuck, aI x_answer, aI x_badWhole, aR 9, aR 10, aR 11, aR 12, aR 13, aR 14, aR 15, aR 16, aR 17, aR 18, aI x_same, aI x_at], c1, c2, c3, c4, c5, c6, c7, c8, c9, c10, c11, c12, c13, c14, c15, c16, c17, c18] bc bs := by
  refine aw_iconst K d_RM_go_13 rfl (v := 1) (by decide) ?_
  refine aw_goto K d_RM_go_14 (n := 18) (by decide) ?_
  exact h
set_option maxRecDepth 20000 in
theorem x_RM_go_18 {X : am_X} {dd bc bs : Nat} (K : am_ok X b_RM_go R_RM 3 dd) {post : Option am_V → List am_C → Prop} (hr : am_rt X (some .int) post) {sp_RM_throwing : am_S} {dd_RM_throwing : Nat} (c_RM_throwing : Con y_RM_throwing b_RM_throwing 3 (some .boolean) dd_RM_throwing 0 0 false sp_RM_throwing) (hdd_RM_throwing : dd_RM_throwing + 1 ≤ dd) {l1 s0 x_thrown x_nodes x_room x_states x_kinds x_rules x_numberings x_wholes x_gone x_steps x_old x_stuck x_answer x_badWhole x_same x_at : Int32} {c1 c2 c3 c4 c5 c6 c7 c8 c9 c10 c11 c12 c13 c14 c15 c16 c17 c18 : am_C}
    (h : sp_RM_throwing [aR 0, aI s0, aI 0] [oC 5 [aI x_thrown, aI x_nodes, aI x_room, aI x_states, aI x_kinds, aI x_rules, aR 1, aR 2, aR 3, aR 4, aR 5, aR 6, aR 7, aR 8, aI x_numberings, aI x_wholes, aI x_gone, aI x_steps, aI x_old, aI x_stuck, aI x_answer, aI x_badWhole, aR 9, aR 10, aR 11, aR 12, aR 13, aR 14, aR 15, aR 16, aR 17, aR 18, aI x_same, aI x_at], c1, c2, c3, c4, c5, c6, c7, c8, c9, c10, c11, c12, c13, c14, c15, c16, c17, c18] (fun rv w' => AW X 22 [some (aR 0), some (aI l1), none] (rv.toList ++ []) w' bc bs)) :
    AW X 18 [some (aR 0), some (aI l1), none] [aI s0, aR 0] [oC 5 [aI x_thrown, aI x_nodes, aI x_room, aI x_states, aI x_kinds, aI x_rules, aR 1, aR 2, aR 3, aR 4, aR 5, aR 6, aR 7, aR 8, aI x_numberings, aI x_wholes, aI x_gone, aI x_steps, aI x_old, aI x_stuck, aI x_answer, aI x_badWhole, aR 9, aR 10, aR 11, aR 12, aR 13, aR 14, aR 15, aR 16, aR 17, aR 18, aI x_same, aI x_at], c1, c2, c3, c4, c5, c6, c7, c8, c9, c10, c11, c12, c13, c14, c15, c16, c17, c18] bc bs := by
  refine aw_iconst K d_RM_go_18 rfl (v := 0) (by decide) ?_
  exact aw_callV K c_RM_throwing cb_RM_103 ci_RM_throwing cs_RM_throwing hdd_RM_throwing (k := 0) rfl rfl d_RM_go_19 rfl (av := [aI s0, aI 0]) rfl (Nat.le_of_ble_eq_true rfl) h (fun rv w' hF => hF)
set_option maxRecDepth 20000 in
theorem x_RM_go_22 {X : am_X} {dd bc bs : Nat} (K : am_ok X b_RM_go R_RM 3 dd) {post : Option am_V → List am_C → Prop} (hr : am_rt X (some .int) post) {sp_RM_begin : am_S} {dd_RM_begin : Nat} (c_RM_begin : Con y_RM_begin b_RM_begin 2 none dd_RM_begin 0 0 false sp_RM_begin) (hdd_RM_begin : dd_RM_begin + 1 ≤ dd) {l1 s0 x_thrown x_nodes x_room x_states x_kinds x_rules x_numberings x_wholes x_gone x_steps x_old x_stuck x_answer x_badWhole x_same x_at : Int32} {c1 c2 c3 c4 c5 c6 c7 c8 c9 c10 c11 c12 c13 c14 c15 c16 c17 c18 : am_C}
    (h : (s0 = 0 → sp_RM_begin [aR 0] [oC 5 [aI x_thrown, aI x_nodes, aI x_room, aI x_states, aI x_kinds, aI x_rules, aR 1, aR 2, aR 3, aR 4, aR 5, aR 6, aR 7, aR 8, aI x_numberings, aI x_wholes, aI x_gone, aI x_steps, aI x_old, aI x_stuck, aI x_answer, aI x_badWhole, aR 9, aR 10, aR 11, aR 12, aR 13, aR 14, aR 15, aR 16, aR 17, aR 18, aI x_same, aI x_at], c1, c2, c3, c4, c5, c6, c7, c8, c9, c10, c11, c12, c13, c14, c15, c16, c17, c18] (fun rv w' => AW X 31 [some (aR 0), some (aI l1), none] (rv.toList ++ []) w' bc bs)) ∧ (¬ s0 = 0 → post (some (aI 0)) [oC 5 [aI x_thrown, aI x_nodes, aI x_room, aI x_states, aI x_kinds, aI x_rules, aR 1, aR 2, aR 3, aR 4, aR 5, aR 6, aR 7, aR 8, aI x_numberings, aI x_wholes, aI x_gone, aI x_steps, aI x_old, aI x_stuck, aI x_answer, aI x_badWhole, aR 9, aR 10, aR 11, aR 12, aR 13, aR 14, aR 15, aR 16, aR 17, aR 18, aI x_same, aI x_at], c1, c2, c3, c4, c5, c6, c7, c8, c9, c10, c11, c12, c13, c14, c15, c16, c17, c18])) :
    AW X 22 [some (aR 0), some (aI l1), none] [aI s0] [oC 5 [aI x_thrown, aI x_nodes, aI x_room, aI x_states, aI x_kinds, aI x_rules, aR 1, aR 2, aR 3, aR 4, aR 5, aR 6, aR 7, aR 8, aI x_numberings, aI x_wholes, aI x_gone, aI x_steps, aI x_old, aI x_stuck, aI x_answer, aI x_badWhole, aR 9, aR 10, aR 11, aR 12, aR 13, aR 14, aR 15, aR 16, aR 17, aR 18, aI x_same, aI x_at], c1, c2, c3, c4, c5, c6, c7, c8, c9, c10, c11, c12, c13, c14, c15, c16, c17, c18] bc bs := by
  refine aw_if_eq K d_RM_go_22 (t := 27) (by decide) rfl (fun q => ?_) (fun q => ?_)
  · replace h := h.1 q
    refine aw_aload_n K d_RM_go_27 rfl rfl ?_
    exact aw_callV K c_RM_begin cb_RM_167 ci_RM_begin cs_RM_begin hdd_RM_begin (k := 0) rfl rfl d_RM_go_28 rfl (av := []) rfl (Nat.le_of_ble_eq_true rfl) h (fun rv w' hF => hF)
  · replace h := h.2 q
    refine aw_iconst K d_RM_go_25 rfl (v := 0) (by decide) ?_
    exact aw_iret K hr d_RM_go_26 h
set_option maxRecDepth 20000 in
theorem x_RM_go_31 {X : am_X} {dd bc bs : Nat} (K : am_ok X b_RM_go R_RM 3 dd) {post : Option am_V → List am_C → Prop} (hr : am_rt X (some .int) post) {l1 x_thrown x_nodes x_room x_states x_kinds x_rules x_numberings x_wholes x_gone x_steps x_old x_stuck x_answer x_badWhole x_same x_at : Int32} {c1 c2 c3 c4 c5 c6 c7 c8 c9 c10 c11 c12 c13 c14 c15 c16 c17 c18 : am_C}
    (h : AW X 33 [some (aR 0), some (aI l1), some (aI 0)] [] [oC 5 [aI x_thrown, aI x_nodes, aI x_room, aI x_states, aI x_kinds, aI x_rules, aR 1, aR 2, aR 3, aR 4, aR 5, aR 6, aR 7, aR 8, aI x_numberings, aI x_wholes, aI x_gone, aI x_steps, aI x_old, aI x_stuck, aI x_answer, aI x_badWhole, aR 9, aR 10, aR 11, aR 12, aR 13, aR 14, aR 15, aR 16, aR 17, aR 18, aI x_same, aI x_at], c1, c2, c3, c4, c5, c6, c7, c8, c9, c10, c11, c12, c13, c14, c15, c16, c17, c18] bc bs) :
    AW X 31 [some (aR 0), some (aI l1), none] [] [oC 5 [aI x_thrown, aI x_nodes, aI x_room, aI x_states, aI x_kinds, aI x_rules, aR 1, aR 2, aR 3, aR 4, aR 5, aR 6, aR 7, aR 8, aI x_numberings, aI x_wholes, aI x_gone, aI x_steps, aI x_old, aI x_stuck, aI x_answer, aI x_badWhole, aR 9, aR 10, aR 11, aR 12, aR 13, aR 14, aR 15, aR 16, aR 17, aR 18, aI x_same, aI x_at], c1, c2, c3, c4, c5, c6, c7, c8, c9, c10, c11, c12, c13, c14, c15, c16, c17, c18] bc bs := by
  refine aw_iconst K d_RM_go_31 rfl (v := 0) (by decide) ?_
  refine aw_istore_n K d_RM_go_32 rfl (by decide) (lv' := [some (aR 0), some (aI l1), some (aI 0)]) rfl ?_
  exact h
set_option maxRecDepth 20000 in
theorem x_RM_go_33 {X : am_X} {dd bc bs : Nat} (K : am_ok X b_RM_go R_RM 3 dd) {post : Option am_V → List am_C → Prop} (hr : am_rt X (some .int) post) {sp_RM_goThrough : am_S} {dd_RM_goThrough : Nat} (c_RM_goThrough : Con y_RM_goThrough b_RM_goThrough 6 none dd_RM_goThrough 0 0 false sp_RM_goThrough) (hdd_RM_goThrough : dd_RM_goThrough + 1 ≤ dd) {l1 l2 x_thrown x_nodes x_room x_states x_kinds x_rules x_numberings x_wholes x_gone x_steps x_old x_stuck x_answer x_badWhole x_same x_at : Int32} {c1 c2 c3 c4 c5 c6 c7 c8 c9 c10 c11 c12 c13 c14 c15 c16 c17 c18 : am_C}
    (h : (l1 ≤ l2 → post (some (aI x_wholes)) [oC 5 [aI x_thrown, aI x_nodes, aI x_room, aI x_states, aI x_kinds, aI x_rules, aR 1, aR 2, aR 3, aR 4, aR 5, aR 6, aR 7, aR 8, aI x_numberings, aI x_wholes, aI x_gone, aI x_steps, aI x_old, aI x_stuck, aI x_answer, aI x_badWhole, aR 9, aR 10, aR 11, aR 12, aR 13, aR 14, aR 15, aR 16, aR 17, aR 18, aI x_same, aI x_at], c1, c2, c3, c4, c5, c6, c7, c8, c9, c10, c11, c12, c13, c14, c15, c16, c17, c18]) ∧ (¬ l1 ≤ l2 → (¬ x_answer = 0 → post (some (aI x_wholes)) [oC 5 [aI x_thrown, aI x_nodes, aI x_room, aI x_states, aI x_kinds, aI x_rules, aR 1, aR 2, aR 3, aR 4, aR 5, aR 6, aR 7, aR 8, aI x_numberings, aI x_wholes, aI x_gone, aI x_steps, aI x_old, aI x_stuck, aI x_answer, aI x_badWhole, aR 9, aR 10, aR 11, aR 12, aR 13, aR 14, aR 15, aR 16, aR 17, aR 18, aI x_same, aI x_at], c1, c2, c3, c4, c5, c6, c7, c8, c9, c10, c11, c12, c13, c14, c15, c16, c17, c18]) ∧ (x_answer = 0 → (x_wholes ≤ x_gone → post (some (aI x_wholes)) [oC 5 [aI x_thrown, aI x_nodes, aI x_room, aI x_states, aI x_kinds, aI x_rules, aR 1, aR 2, aR 3, aR 4, aR 5, aR 6, aR 7, aR 8, aI x_numberings, aI x_wholes, aI x_gone, aI x_steps, aI x_old, aI x_stuck, aI x_answer, aI x_badWhole, aR 9, aR 10, aR 11, aR 12, aR 13, aR 14, aR 15, aR 16, aR 17, aR 18, aI x_same, aI x_at], c1, c2, c3, c4, c5, c6, c7, c8, c9, c10, c11, c12, c13, c14, c15, c16, c17, c18]) ∧ (¬ x_wholes ≤ x_gone → sp_RM_goThrough [aR 0] [oC 5 [aI x_thrown, aI x_nodes, aI x_room, aI x_states, aI x_kinds, aI x_rules, aR 1, aR 2, aR 3, aR 4, aR 5, aR 6, aR 7, aR 8, aI x_numberings, aI x_wholes, aI x_gone, aI x_steps, aI x_old, aI x_stuck, aI x_answer, aI x_badWhole, aR 9, aR 10, aR 11, aR 12, aR 13, aR 14, aR 15, aR 16, aR 17, aR 18, aI x_same, aI x_at], c1, c2, c3, c4, c5, c6, c7, c8, c9, c10, c11, c12, c13, c14, c15, c16, c17, c18] (fun rv w' => AW X 60 [some (aR 0), some (aI l1), some (aI l2)] (rv.toList ++ []) w' bc bs))))) :
    AW X 33 [some (aR 0), some (aI l1), some (aI l2)] [] [oC 5 [aI x_thrown, aI x_nodes, aI x_room, aI x_states, aI x_kinds, aI x_rules, aR 1, aR 2, aR 3, aR 4, aR 5, aR 6, aR 7, aR 8, aI x_numberings, aI x_wholes, aI x_gone, aI x_steps, aI x_old, aI x_stuck, aI x_answer, aI x_badWhole, aR 9, aR 10, aR 11, aR 12, aR 13, aR 14, aR 15, aR 16, aR 17, aR 18, aI x_same, aI x_at], c1, c2, c3, c4, c5, c6, c7, c8, c9, c10, c11, c12, c13, c14, c15, c16, c17, c18] bc bs := by
  refine aw_iload_n K d_RM_go_33 rfl rfl ?_
  refine aw_iload_n K d_RM_go_34 rfl rfl ?_
  refine aw_icmp_ge K d_RM_go_35 (t := 66) (by decide) rfl (fun q => ?_) (fun q => ?_)
  · replace h := h.1 q
    refine aw_aload_n K d_RM_go_66 rfl rfl ?_
    refine aw_getf K fd_RM_82 d_RM_go_67 rfl rfl rfl ?_
    exact aw_iret K hr d_RM_go_70 h
  · replace h := h.2 q
    refine aw_aload_n K d_RM_go_38 rfl rfl ?_
    refine aw_getf K fd_RM_97 d_RM_go_39 rfl rfl rfl ?_
    refine aw_if_ne K d_RM_go_42 (t := 66) (by decide) rfl (fun q => ?_) (fun q => ?_)
    · replace h := h.1 q
      refine aw_aload_n K d_RM_go_66 rfl rfl ?_
      refine aw_getf K fd_RM_82 d_RM_go_67 rfl rfl rfl ?_
      exact aw_iret K hr d_RM_go_70 h
    · replace h := h.2 q
      refine aw_aload_n K d_RM_go_45 rfl rfl ?_
      refine aw_getf K fd_RM_85 d_RM_go_46 rfl rfl rfl ?_
      refine aw_aload_n K d_RM_go_49 rfl rfl ?_
      refine aw_getf K fd_RM_82 d_RM_go_50 rfl rfl rfl ?_
      refine aw_icmp_ge K d_RM_go_53 (t := 66) (by decide) rfl (fun q => ?_) (fun q => ?_)
      · replace h := h.1 q
        refine aw_aload_n K d_RM_go_66 rfl rfl ?_
        refine aw_getf K fd_RM_82 d_RM_go_67 rfl rfl rfl ?_
        exact aw_iret K hr d_RM_go_70 h
      · replace h := h.2 q
        refine aw_aload_n K d_RM_go_56 rfl rfl ?_
        exact aw_callV K c_RM_goThrough cb_RM_170 ci_RM_goThrough cs_RM_goThrough hdd_RM_goThrough (k := 0) rfl rfl d_RM_go_57 rfl (av := []) rfl (Nat.le_of_ble_eq_true rfl) h (fun rv w' hF => hF)
set_option maxRecDepth 20000 in
theorem x_RM_go_60 {X : am_X} {dd bc bs : Nat} (K : am_ok X b_RM_go R_RM 3 dd) {post : Option am_V → List am_C → Prop} (hr : am_rt X (some .int) post) {l1 l2 x_thrown x_nodes x_room x_states x_kinds x_rules x_numberings x_wholes x_gone x_steps x_old x_stuck x_answer x_badWhole x_same x_at : Int32} {c1 c2 c3 c4 c5 c6 c7 c8 c9 c10 c11 c12 c13 c14 c15 c16 c17 c18 : am_C}
    (h : AW X 33 [some (aR 0), some (aI l1), some (aI (l2 + 1))] [] [oC 5 [aI x_thrown, aI x_nodes, aI x_room, aI x_states, aI x_kinds, aI x_rules, aR 1, aR 2, aR 3, aR 4, aR 5, aR 6, aR 7, aR 8, aI x_numberings, aI x_wholes, aI x_gone, aI x_steps, aI x_old, aI x_stuck, aI x_answer, aI x_badWhole, aR 9, aR 10, aR 11, aR 12, aR 13, aR 14, aR 15, aR 16, aR 17, aR 18, aI x_same, aI x_at], c1, c2, c3, c4, c5, c6, c7, c8, c9, c10, c11, c12, c13, c14, c15, c16, c17, c18] bc bs) :
    AW X 60 [some (aR 0), some (aI l1), some (aI l2)] [] [oC 5 [aI x_thrown, aI x_nodes, aI x_room, aI x_states, aI x_kinds, aI x_rules, aR 1, aR 2, aR 3, aR 4, aR 5, aR 6, aR 7, aR 8, aI x_numberings, aI x_wholes, aI x_gone, aI x_steps, aI x_old, aI x_stuck, aI x_answer, aI x_badWhole, aR 9, aR 10, aR 11, aR 12, aR 13, aR 14, aR 15, aR 16, aR 17, aR 18, aI x_same, aI x_at], c1, c2, c3, c4, c5, c6, c7, c8, c9, c10, c11, c12, c13, c14, c15, c16, c17, c18] bc bs := by
  refine aw_iinc K d_RM_go_60 rfl rfl (v := l2 + 1) rfl (by decide) (lv' := [some (aR 0), some (aI l1), some (aI (l2 + 1))]) rfl ?_
  refine aw_goto K d_RM_go_63 (n := 33) (by decide) ?_
  exact h
set_option maxRecDepth 20000 in
theorem x_RM_node_0 {X : am_X} {dd bc bs : Nat} (K : am_ok X b_RM_node R_RM 3 dd) {post : Option am_V → List am_C → Prop} (hr : am_rt X (some .int) post) {sp_RM_isOf : am_S} {dd_RM_isOf : Nat} (c_RM_isOf : Con y_RM_isOf b_RM_isOf 2 (some .boolean) dd_RM_isOf 0 0 false sp_RM_isOf) (hdd_RM_isOf : dd_RM_isOf + 1 ≤ dd) {l1 l2 x_thrown x_nodes x_room x_states x_kinds x_rules x_numberings x_wholes x_gone x_steps x_old x_stuck x_answer x_badWhole x_same x_at : Int32} {x_rows : Nat → Int32} {c1 c2 c3 c4 c5 c6 c7 c8 c10 c11 c12 c13 c14 c15 c16 c17 c18 : am_C}
    (h : sp_RM_isOf [aI l1, aI x_wholes] [oC 5 [aI x_thrown, aI x_nodes, aI x_room, aI x_states, aI x_kinds, aI x_rules, aR 1, aR 2, aR 3, aR 4, aR 5, aR 6, aR 7, aR 8, aI x_numberings, aI x_wholes, aI x_gone, aI x_steps, aI x_old, aI x_stuck, aI x_answer, aI x_badWhole, aR 9, aR 10, aR 11, aR 12, aR 13, aR 14, aR 15, aR 16, aR 17, aR 18, aI x_same, aI x_at], c1, c2, c3, c4, c5, c6, c7, c8, iC 98304 x_rows, c10, c11, c12, c13, c14, c15, c16, c17, c18] (fun rv w' => AW X 9 [some (aR 0), some (aI l1), some (aI l2)] (rv.toList ++ [aR 0]) w' bc bs)) :
    AW X 0 [some (aR 0), some (aI l1), some (aI l2)] [] [oC 5 [aI x_thrown, aI x_nodes, aI x_room, aI x_states, aI x_kinds, aI x_rules, aR 1, aR 2, aR 3, aR 4, aR 5, aR 6, aR 7, aR 8, aI x_numberings, aI x_wholes, aI x_gone, aI x_steps, aI x_old, aI x_stuck, aI x_answer, aI x_badWhole, aR 9, aR 10, aR 11, aR 12, aR 13, aR 14, aR 15, aR 16, aR 17, aR 18, aI x_same, aI x_at], c1, c2, c3, c4, c5, c6, c7, c8, iC 98304 x_rows, c10, c11, c12, c13, c14, c15, c16, c17, c18] bc bs := by
  refine aw_aload_n K d_RM_node_0 rfl rfl ?_
  refine aw_iload_n K d_RM_node_1 rfl rfl ?_
  refine aw_aload_n K d_RM_node_2 rfl rfl ?_
  refine aw_getf K fd_RM_82 d_RM_node_3 rfl rfl rfl ?_
  exact aw_callS K c_RM_isOf cb_RM_113 ct_RM_isOf hdd_RM_isOf d_RM_node_6 rfl (av := [aI l1, aI x_wholes]) rfl (Nat.le_of_ble_eq_true rfl) h (fun rv w' hF => hF)
set_option maxRecDepth 20000 in
theorem x_RM_node_9 {X : am_X} {dd bc bs : Nat} (K : am_ok X b_RM_node R_RM 3 dd) {post : Option am_V → List am_C → Prop} (hr : am_rt X (some .int) post) {sp_RM_isOf : am_S} {dd_RM_isOf : Nat} (c_RM_isOf : Con y_RM_isOf b_RM_isOf 2 (some .boolean) dd_RM_isOf 0 0 false sp_RM_isOf) (hdd_RM_isOf : dd_RM_isOf + 1 ≤ dd) {l1 l2 s0 x_thrown x_nodes x_room x_states x_kinds x_rules x_numberings x_wholes x_gone x_steps x_old x_stuck x_answer x_badWhole x_same x_at : Int32} {x_rows : Nat → Int32} {c1 c2 c3 c4 c5 c6 c7 c8 c10 c11 c12 c13 c14 c15 c16 c17 c18 : am_C}
    (h : (s0 = 0 → AW X 23 [some (aR 0), some (aI l1), some (aI l2)] [aR 0] [oC 5 [aI x_thrown, aI x_nodes, aI x_room, aI x_states, aI x_kinds, aI x_rules, aR 1, aR 2, aR 3, aR 4, aR 5, aR 6, aR 7, aR 8, aI x_numberings, aI x_wholes, aI x_gone, aI x_steps, aI x_old, aI x_stuck, aI x_answer, aI x_badWhole, aR 9, aR 10, aR 11, aR 12, aR 13, aR 14, aR 15, aR 16, aR 17, aR 18, aI x_same, aI x_at], c1, c2, c3, c4, c5, c6, c7, c8, iC 98304 x_rows, c10, c11, c12, c13, c14, c15, c16, c17, c18] bc bs) ∧ (¬ s0 = 0 → sp_RM_isOf [aI l2, aI x_nodes] [oC 5 [aI x_thrown, aI x_nodes, aI x_room, aI x_states, aI x_kinds, aI x_rules, aR 1, aR 2, aR 3, aR 4, aR 5, aR 6, aR 7, aR 8, aI x_numberings, aI x_wholes, aI x_gone, aI x_steps, aI x_old, aI x_stuck, aI x_answer, aI x_badWhole, aR 9, aR 10, aR 11, aR 12, aR 13, aR 14, aR 15, aR 16, aR 17, aR 18, aI x_same, aI x_at], c1, c2, c3, c4, c5, c6, c7, c8, iC 98304 x_rows, c10, c11, c12, c13, c14, c15, c16, c17, c18] (fun rv w' => AW X 20 [some (aR 0), some (aI l1), some (aI l2)] (rv.toList ++ [aR 0]) w' bc bs))) :
    AW X 9 [some (aR 0), some (aI l1), some (aI l2)] [aI s0, aR 0] [oC 5 [aI x_thrown, aI x_nodes, aI x_room, aI x_states, aI x_kinds, aI x_rules, aR 1, aR 2, aR 3, aR 4, aR 5, aR 6, aR 7, aR 8, aI x_numberings, aI x_wholes, aI x_gone, aI x_steps, aI x_old, aI x_stuck, aI x_answer, aI x_badWhole, aR 9, aR 10, aR 11, aR 12, aR 13, aR 14, aR 15, aR 16, aR 17, aR 18, aI x_same, aI x_at], c1, c2, c3, c4, c5, c6, c7, c8, iC 98304 x_rows, c10, c11, c12, c13, c14, c15, c16, c17, c18] bc bs := by
  refine aw_if_eq K d_RM_node_9 (t := 23) (by decide) rfl (fun q => ?_) (fun q => ?_)
  · replace h := h.1 q
    exact h
  · replace h := h.2 q
    refine aw_iload_n K d_RM_node_12 rfl rfl ?_
    refine aw_aload_n K d_RM_node_13 rfl rfl ?_
    refine aw_getf K fd_RM_70 d_RM_node_14 rfl rfl rfl ?_
    exact aw_callS K c_RM_isOf cb_RM_113 ct_RM_isOf hdd_RM_isOf d_RM_node_17 rfl (av := [aI l2, aI x_nodes]) rfl (Nat.le_of_ble_eq_true rfl) h (fun rv w' hF => hF)
set_option maxRecDepth 20000 in
theorem x_RM_node_20 {X : am_X} {dd bc bs : Nat} (K : am_ok X b_RM_node R_RM 3 dd) {post : Option am_V → List am_C → Prop} (hr : am_rt X (some .int) post) {l1 l2 s0 x_thrown x_nodes x_room x_states x_kinds x_rules x_numberings x_wholes x_gone x_steps x_old x_stuck x_answer x_badWhole x_same x_at : Int32} {x_rows : Nat → Int32} {c1 c2 c3 c4 c5 c6 c7 c8 c10 c11 c12 c13 c14 c15 c16 c17 c18 : am_C}
    (h : (¬ s0 = 0 → AW X 28 [some (aR 0), some (aI l1), some (aI l2)] [aI 0, aR 0] [oC 5 [aI x_thrown, aI x_nodes, aI x_room, aI x_states, aI x_kinds, aI x_rules, aR 1, aR 2, aR 3, aR 4, aR 5, aR 6, aR 7, aR 8, aI x_numberings, aI x_wholes, aI x_gone, aI x_steps, aI x_old, aI x_stuck, aI x_answer, aI x_badWhole, aR 9, aR 10, aR 11, aR 12, aR 13, aR 14, aR 15, aR 16, aR 17, aR 18, aI x_same, aI x_at], c1, c2, c3, c4, c5, c6, c7, c8, iC 98304 x_rows, c10, c11, c12, c13, c14, c15, c16, c17, c18] bc bs) ∧ (s0 = 0 → AW X 23 [some (aR 0), some (aI l1), some (aI l2)] [aR 0] [oC 5 [aI x_thrown, aI x_nodes, aI x_room, aI x_states, aI x_kinds, aI x_rules, aR 1, aR 2, aR 3, aR 4, aR 5, aR 6, aR 7, aR 8, aI x_numberings, aI x_wholes, aI x_gone, aI x_steps, aI x_old, aI x_stuck, aI x_answer, aI x_badWhole, aR 9, aR 10, aR 11, aR 12, aR 13, aR 14, aR 15, aR 16, aR 17, aR 18, aI x_same, aI x_at], c1, c2, c3, c4, c5, c6, c7, c8, iC 98304 x_rows, c10, c11, c12, c13, c14, c15, c16, c17, c18] bc bs)) :
    AW X 20 [some (aR 0), some (aI l1), some (aI l2)] [aI s0, aR 0] [oC 5 [aI x_thrown, aI x_nodes, aI x_room, aI x_states, aI x_kinds, aI x_rules, aR 1, aR 2, aR 3, aR 4, aR 5, aR 6, aR 7, aR 8, aI x_numberings, aI x_wholes, aI x_gone, aI x_steps, aI x_old, aI x_stuck, aI x_answer, aI x_badWhole, aR 9, aR 10, aR 11, aR 12, aR 13, aR 14, aR 15, aR 16, aR 17, aR 18, aI x_same, aI x_at], c1, c2, c3, c4, c5, c6, c7, c8, iC 98304 x_rows, c10, c11, c12, c13, c14, c15, c16, c17, c18] bc bs := by
  refine aw_if_ne K d_RM_node_20 (t := 27) (by decide) rfl (fun q => ?_) (fun q => ?_)
  · replace h := h.1 q
    refine aw_iconst K d_RM_node_27 rfl (v := 0) (by decide) ?_
    exact h
  · replace h := h.2 q
    exact h
set_option maxRecDepth 20000 in
theorem x_RM_node_23 {X : am_X} {dd bc bs : Nat} (K : am_ok X b_RM_node R_RM 3 dd) {post : Option am_V → List am_C → Prop} (hr : am_rt X (some .int) post) {l1 l2 x_thrown x_nodes x_room x_states x_kinds x_rules x_numberings x_wholes x_gone x_steps x_old x_stuck x_answer x_badWhole x_same x_at : Int32} {x_rows : Nat → Int32} {c1 c2 c3 c4 c5 c6 c7 c8 c10 c11 c12 c13 c14 c15 c16 c17 c18 : am_C}
    (h : AW X 28 [some (aR 0), some (aI l1), some (aI l2)] [aI 1, aR 0] [oC 5 [aI x_thrown, aI x_nodes, aI x_room, aI x_states, aI x_kinds, aI x_rules, aR 1, aR 2, aR 3, aR 4, aR 5, aR 6, aR 7, aR 8, aI x_numberings, aI x_wholes, aI x_gone, aI x_steps, aI x_old, aI x_stuck, aI x_answer, aI x_badWhole, aR 9, aR 10, aR 11, aR 12, aR 13, aR 14, aR 15, aR 16, aR 17, aR 18, aI x_same, aI x_at], c1, c2, c3, c4, c5, c6, c7, c8, iC 98304 x_rows, c10, c11, c12, c13, c14, c15, c16, c17, c18] bc bs) :
    AW X 23 [some (aR 0), some (aI l1), some (aI l2)] [aR 0] [oC 5 [aI x_thrown, aI x_nodes, aI x_room, aI x_states, aI x_kinds, aI x_rules, aR 1, aR 2, aR 3, aR 4, aR 5, aR 6, aR 7, aR 8, aI x_numberings, aI x_wholes, aI x_gone, aI x_steps, aI x_old, aI x_stuck, aI x_answer, aI x_badWhole, aR 9, aR 10, aR 11, aR 12, aR 13, aR 14, aR 15, aR 16, aR 17, aR 18, aI x_same, aI x_at], c1, c2, c3, c4, c5, c6, c7, c8, iC 98304 x_rows, c10, c11, c12, c13, c14, c15, c16, c17, c18] bc bs := by
  refine aw_iconst K d_RM_node_23 rfl (v := 1) (by decide) ?_
  refine aw_goto K d_RM_node_24 (n := 28) (by decide) ?_
  exact h
set_option maxRecDepth 20000 in
theorem x_RM_node_28 {X : am_X} {dd bc bs : Nat} (K : am_ok X b_RM_node R_RM 3 dd) {post : Option am_V → List am_C → Prop} (hr : am_rt X (some .int) post) {sp_RM_throwing : am_S} {dd_RM_throwing : Nat} (c_RM_throwing : Con y_RM_throwing b_RM_throwing 3 (some .boolean) dd_RM_throwing 0 0 false sp_RM_throwing) (hdd_RM_throwing : dd_RM_throwing + 1 ≤ dd) {l1 l2 s0 x_thrown x_nodes x_room x_states x_kinds x_rules x_numberings x_wholes x_gone x_steps x_old x_stuck x_answer x_badWhole x_same x_at : Int32} {x_rows : Nat → Int32} {c1 c2 c3 c4 c5 c6 c7 c8 c10 c11 c12 c13 c14 c15 c16 c17 c18 : am_C}
    (h : sp_RM_throwing [aR 0, aI s0, aI 0] [oC 5 [aI x_thrown, aI x_nodes, aI x_room, aI x_states, aI x_kinds, aI x_rules, aR 1, aR 2, aR 3, aR 4, aR 5, aR 6, aR 7, aR 8, aI x_numberings, aI x_wholes, aI x_gone, aI x_steps, aI x_old, aI x_stuck, aI x_answer, aI x_badWhole, aR 9, aR 10, aR 11, aR 12, aR 13, aR 14, aR 15, aR 16, aR 17, aR 18, aI x_same, aI x_at], c1, c2, c3, c4, c5, c6, c7, c8, iC 98304 x_rows, c10, c11, c12, c13, c14, c15, c16, c17, c18] (fun rv w' => AW X 32 [some (aR 0), some (aI l1), some (aI l2)] (rv.toList ++ []) w' bc bs)) :
    AW X 28 [some (aR 0), some (aI l1), some (aI l2)] [aI s0, aR 0] [oC 5 [aI x_thrown, aI x_nodes, aI x_room, aI x_states, aI x_kinds, aI x_rules, aR 1, aR 2, aR 3, aR 4, aR 5, aR 6, aR 7, aR 8, aI x_numberings, aI x_wholes, aI x_gone, aI x_steps, aI x_old, aI x_stuck, aI x_answer, aI x_badWhole, aR 9, aR 10, aR 11, aR 12, aR 13, aR 14, aR 15, aR 16, aR 17, aR 18, aI x_same, aI x_at], c1, c2, c3, c4, c5, c6, c7, c8, iC 98304 x_rows, c10, c11, c12, c13, c14, c15, c16, c17, c18] bc bs := by
  refine aw_iconst K d_RM_node_28 rfl (v := 0) (by decide) ?_
  exact aw_callV K c_RM_throwing cb_RM_103 ci_RM_throwing cs_RM_throwing hdd_RM_throwing (k := 0) rfl rfl d_RM_node_29 rfl (av := [aI s0, aI 0]) rfl (Nat.le_of_ble_eq_true rfl) h (fun rv w' hF => hF)
set_option maxRecDepth 20000 in
theorem x_RM_node_32 {X : am_X} {dd bc bs : Nat} (K : am_ok X b_RM_node R_RM 3 dd) {post : Option am_V → List am_C → Prop} (hr : am_rt X (some .int) post) {l1 l2 s0 x_thrown x_nodes x_room x_states x_kinds x_rules x_numberings x_wholes x_gone x_steps x_old x_stuck x_answer x_badWhole x_same x_at : Int32} {x_rows : Nat → Int32} {c1 c2 c3 c4 c5 c6 c7 c8 c10 c11 c12 c13 c14 c15 c16 c17 c18 : am_C}
    (h : (s0 = 0 → vp_in (((12 : Int32) * l1) + l2) 98304 ∧ post (some (aI (x_rows (((12 : Int32) * l1) + l2).toNatClampNeg))) [oC 5 [aI x_thrown, aI x_nodes, aI x_room, aI x_states, aI x_kinds, aI x_rules, aR 1, aR 2, aR 3, aR 4, aR 5, aR 6, aR 7, aR 8, aI x_numberings, aI x_wholes, aI x_gone, aI x_steps, aI x_old, aI x_stuck, aI x_answer, aI x_badWhole, aR 9, aR 10, aR 11, aR 12, aR 13, aR 14, aR 15, aR 16, aR 17, aR 18, aI x_same, aI x_at], c1, c2, c3, c4, c5, c6, c7, c8, iC 98304 x_rows, c10, c11, c12, c13, c14, c15, c16, c17, c18]) ∧ (¬ s0 = 0 → post (some (aI 0)) [oC 5 [aI x_thrown, aI x_nodes, aI x_room, aI x_states, aI x_kinds, aI x_rules, aR 1, aR 2, aR 3, aR 4, aR 5, aR 6, aR 7, aR 8, aI x_numberings, aI x_wholes, aI x_gone, aI x_steps, aI x_old, aI x_stuck, aI x_answer, aI x_badWhole, aR 9, aR 10, aR 11, aR 12, aR 13, aR 14, aR 15, aR 16, aR 17, aR 18, aI x_same, aI x_at], c1, c2, c3, c4, c5, c6, c7, c8, iC 98304 x_rows, c10, c11, c12, c13, c14, c15, c16, c17, c18])) :
    AW X 32 [some (aR 0), some (aI l1), some (aI l2)] [aI s0] [oC 5 [aI x_thrown, aI x_nodes, aI x_room, aI x_states, aI x_kinds, aI x_rules, aR 1, aR 2, aR 3, aR 4, aR 5, aR 6, aR 7, aR 8, aI x_numberings, aI x_wholes, aI x_gone, aI x_steps, aI x_old, aI x_stuck, aI x_answer, aI x_badWhole, aR 9, aR 10, aR 11, aR 12, aR 13, aR 14, aR 15, aR 16, aR 17, aR 18, aI x_same, aI x_at], c1, c2, c3, c4, c5, c6, c7, c8, iC 98304 x_rows, c10, c11, c12, c13, c14, c15, c16, c17, c18] bc bs := by
  refine aw_if_eq K d_RM_node_32 (t := 37) (by decide) rfl (fun q => ?_) (fun q => ?_)
  · replace h := h.1 q
    refine aw_aload_n K d_RM_node_37 rfl rfl ?_
    refine aw_getf K fd_RM_40 d_RM_node_38 rfl rfl rfl ?_
    refine aw_bipush K d_RM_node_41 rfl (v := 12) (by decide) ?_
    refine aw_iload_n K d_RM_node_43 rfl rfl ?_
    refine aw_imul K d_RM_node_44 rfl ?_
    refine aw_iload_n K d_RM_node_45 rfl rfl ?_
    refine aw_iadd K d_RM_node_46 rfl ?_
    refine aw_iald K d_RM_node_47 rfl rfl h.1 ?_
    replace h := h.2
    exact aw_iret K hr d_RM_node_48 h
  · replace h := h.2 q
    refine aw_iconst K d_RM_node_35 rfl (v := 0) (by decide) ?_
    exact aw_iret K hr d_RM_node_36 h

set_option maxRecDepth 20000 in
theorem x_RM_code_0 {X : am_X} {dd bc bs : Nat} (K : am_ok X b_RM_code R_RM 3 dd) {post : Option am_V → List am_C → Prop} (hr : am_rt X (some .int) post) {sp_RM_isOf : am_S} {dd_RM_isOf : Nat} (c_RM_isOf : Con y_RM_isOf b_RM_isOf 2 (some .boolean) dd_RM_isOf 0 0 false sp_RM_isOf) (hdd_RM_isOf : dd_RM_isOf + 1 ≤ dd) {l1 l2 x_thrown x_nodes x_room x_states x_kinds x_rules x_numberings x_wholes x_gone x_steps x_old x_stuck x_answer x_badWhole x_same x_at : Int32} {x_rows : Nat → Int32} {c1 c2 c3 c4 c5 c6 c7 c8 c10 c11 c12 c13 c14 c15 c16 c17 c18 : am_C}
    (h : sp_RM_isOf [aI l1, aI x_wholes] [oC 5 [aI x_thrown, aI x_nodes, aI x_room, aI x_states, aI x_kinds, aI x_rules, aR 1, aR 2, aR 3, aR 4, aR 5, aR 6, aR 7, aR 8, aI x_numberings, aI x_wholes, aI x_gone, aI x_steps, aI x_old, aI x_stuck, aI x_answer, aI x_badWhole, aR 9, aR 10, aR 11, aR 12, aR 13, aR 14, aR 15, aR 16, aR 17, aR 18, aI x_same, aI x_at], c1, c2, c3, c4, c5, c6, c7, c8, iC 98304 x_rows, c10, c11, c12, c13, c14, c15, c16, c17, c18] (fun rv w' => AW X 9 [some (aR 0), some (aI l1), some (aI l2)] (rv.toList ++ [aR 0]) w' bc bs)) :
    AW X 0 [some (aR 0), some (aI l1), some (aI l2)] [] [oC 5 [aI x_thrown, aI x_nodes, aI x_room, aI x_states, aI x_kinds, aI x_rules, aR 1, aR 2, aR 3, aR 4, aR 5, aR 6, aR 7, aR 8, aI x_numberings, aI x_wholes, aI x_gone, aI x_steps, aI x_old, aI x_stuck, aI x_answer, aI x_badWhole, aR 9, aR 10, aR 11, aR 12, aR 13, aR 14, aR 15, aR 16, aR 17, aR 18, aI x_same, aI x_at], c1, c2, c3, c4, c5, c6, c7, c8, iC 98304 x_rows, c10, c11, c12, c13, c14, c15, c16, c17, c18] bc bs := by
  refine aw_aload_n K d_RM_code_0 rfl rfl ?_
  refine aw_iload_n K d_RM_code_1 rfl rfl ?_
  refine aw_aload_n K d_RM_code_2 rfl rfl ?_
  refine aw_getf K fd_RM_82 d_RM_code_3 rfl rfl rfl ?_
  exact aw_callS K c_RM_isOf cb_RM_113 ct_RM_isOf hdd_RM_isOf d_RM_code_6 rfl (av := [aI l1, aI x_wholes]) rfl (Nat.le_of_ble_eq_true rfl) h (fun rv w' hF => hF)
set_option maxRecDepth 20000 in
theorem x_RM_code_9 {X : am_X} {dd bc bs : Nat} (K : am_ok X b_RM_code R_RM 3 dd) {post : Option am_V → List am_C → Prop} (hr : am_rt X (some .int) post) {sp_RM_isOf : am_S} {dd_RM_isOf : Nat} (c_RM_isOf : Con y_RM_isOf b_RM_isOf 2 (some .boolean) dd_RM_isOf 0 0 false sp_RM_isOf) (hdd_RM_isOf : dd_RM_isOf + 1 ≤ dd) {l1 l2 s0 x_thrown x_nodes x_room x_states x_kinds x_rules x_numberings x_wholes x_gone x_steps x_old x_stuck x_answer x_badWhole x_same x_at : Int32} {x_rows : Nat → Int32} {c1 c2 c3 c4 c5 c6 c7 c8 c10 c11 c12 c13 c14 c15 c16 c17 c18 : am_C}
    (h : (s0 = 0 → AW X 45 [some (aR 0), some (aI l1), some (aI l2)] [aR 0] [oC 5 [aI x_thrown, aI x_nodes, aI x_room, aI x_states, aI x_kinds, aI x_rules, aR 1, aR 2, aR 3, aR 4, aR 5, aR 6, aR 7, aR 8, aI x_numberings, aI x_wholes, aI x_gone, aI x_steps, aI x_old, aI x_stuck, aI x_answer, aI x_badWhole, aR 9, aR 10, aR 11, aR 12, aR 13, aR 14, aR 15, aR 16, aR 17, aR 18, aI x_same, aI x_at], c1, c2, c3, c4, c5, c6, c7, c8, iC 98304 x_rows, c10, c11, c12, c13, c14, c15, c16, c17, c18] bc bs) ∧ (¬ s0 = 0 → sp_RM_isOf [aI l1, aI x_wholes] [oC 5 [aI x_thrown, aI x_nodes, aI x_room, aI x_states, aI x_kinds, aI x_rules, aR 1, aR 2, aR 3, aR 4, aR 5, aR 6, aR 7, aR 8, aI x_numberings, aI x_wholes, aI x_gone, aI x_steps, aI x_old, aI x_stuck, aI x_answer, aI x_badWhole, aR 9, aR 10, aR 11, aR 12, aR 13, aR 14, aR 15, aR 16, aR 17, aR 18, aI x_same, aI x_at], c1, c2, c3, c4, c5, c6, c7, c8, iC 98304 x_rows, c10, c11, c12, c13, c14, c15, c16, c17, c18] (fun rv w' => AW X 21 [some (aR 0), some (aI l1), some (aI l2)] (rv.toList ++ [aI l2, aR 0]) w' bc bs))) :
    AW X 9 [some (aR 0), some (aI l1), some (aI l2)] [aI s0, aR 0] [oC 5 [aI x_thrown, aI x_nodes, aI x_room, aI x_states, aI x_kinds, aI x_rules, aR 1, aR 2, aR 3, aR 4, aR 5, aR 6, aR 7, aR 8, aI x_numberings, aI x_wholes, aI x_gone, aI x_steps, aI x_old, aI x_stuck, aI x_answer, aI x_badWhole, aR 9, aR 10, aR 11, aR 12, aR 13, aR 14, aR 15, aR 16, aR 17, aR 18, aI x_same, aI x_at], c1, c2, c3, c4, c5, c6, c7, c8, iC 98304 x_rows, c10, c11, c12, c13, c14, c15, c16, c17, c18] bc bs := by
  refine aw_if_eq K d_RM_code_9 (t := 45) (by decide) rfl (fun q => ?_) (fun q => ?_)
  · replace h := h.1 q
    exact h
  · replace h := h.2 q
    refine aw_iload_n K d_RM_code_12 rfl rfl ?_
    refine aw_iload_n K d_RM_code_13 rfl rfl ?_
    refine aw_aload_n K d_RM_code_14 rfl rfl ?_
    refine aw_getf K fd_RM_82 d_RM_code_15 rfl rfl rfl ?_
    exact aw_callS K c_RM_isOf cb_RM_113 ct_RM_isOf hdd_RM_isOf d_RM_code_18 rfl (av := [aI l1, aI x_wholes]) rfl (Nat.le_of_ble_eq_true rfl) h (fun rv w' hF => hF)
set_option maxRecDepth 20000 in
theorem x_RM_code_21 {X : am_X} {dd bc bs : Nat} (K : am_ok X b_RM_code R_RM 3 dd) {post : Option am_V → List am_C → Prop} (hr : am_rt X (some .int) post) {l1 l2 s0 s1 x_thrown x_nodes x_room x_states x_kinds x_rules x_numberings x_wholes x_gone x_steps x_old x_stuck x_answer x_badWhole x_same x_at : Int32} {x_rows : Nat → Int32} {c1 c2 c3 c4 c5 c6 c7 c8 c10 c11 c12 c13 c14 c15 c16 c17 c18 : am_C}
    (h : (s0 = 0 → AW X 39 [some (aR 0), some (aI l1), some (aI l2)] [aI 0, aI s1, aR 0] [oC 5 [aI x_thrown, aI x_nodes, aI x_room, aI x_states, aI x_kinds, aI x_rules, aR 1, aR 2, aR 3, aR 4, aR 5, aR 6, aR 7, aR 8, aI x_numberings, aI x_wholes, aI x_gone, aI x_steps, aI x_old, aI x_stuck, aI x_answer, aI x_badWhole, aR 9, aR 10, aR 11, aR 12, aR 13, aR 14, aR 15, aR 16, aR 17, aR 18, aI x_same, aI x_at], c1, c2, c3, c4, c5, c6, c7, c8, iC 98304 x_rows, c10, c11, c12, c13, c14, c15, c16, c17, c18] bc bs) ∧ (¬ s0 = 0 → vp_in (((12 : Int32) * l1) + (4 : Int32)) 98304 ∧ AW X 39 [some (aR 0), some (aI l1), some (aI l2)] [aI (x_rows (((12 : Int32) * l1) + (4 : Int32)).toNatClampNeg), aI s1, aR 0] [oC 5 [aI x_thrown, aI x_nodes, aI x_room, aI x_states, aI x_kinds, aI x_rules, aR 1, aR 2, aR 3, aR 4, aR 5, aR 6, aR 7, aR 8, aI x_numberings, aI x_wholes, aI x_gone, aI x_steps, aI x_old, aI x_stuck, aI x_answer, aI x_badWhole, aR 9, aR 10, aR 11, aR 12, aR 13, aR 14, aR 15, aR 16, aR 17, aR 18, aI x_same, aI x_at], c1, c2, c3, c4, c5, c6, c7, c8, iC 98304 x_rows, c10, c11, c12, c13, c14, c15, c16, c17, c18] bc bs)) :
    AW X 21 [some (aR 0), some (aI l1), some (aI l2)] [aI s0, aI s1, aR 0] [oC 5 [aI x_thrown, aI x_nodes, aI x_room, aI x_states, aI x_kinds, aI x_rules, aR 1, aR 2, aR 3, aR 4, aR 5, aR 6, aR 7, aR 8, aI x_numberings, aI x_wholes, aI x_gone, aI x_steps, aI x_old, aI x_stuck, aI x_answer, aI x_badWhole, aR 9, aR 10, aR 11, aR 12, aR 13, aR 14, aR 15, aR 16, aR 17, aR 18, aI x_same, aI x_at], c1, c2, c3, c4, c5, c6, c7, c8, iC 98304 x_rows, c10, c11, c12, c13, c14, c15, c16, c17, c18] bc bs := by
  refine aw_if_eq K d_RM_code_21 (t := 38) (by decide) rfl (fun q => ?_) (fun q => ?_)
  · replace h := h.1 q
    refine aw_iconst K d_RM_code_38 rfl (v := 0) (by decide) ?_
    exact h
  · replace h := h.2 q
    refine aw_aload_n K d_RM_code_24 rfl rfl ?_
    refine aw_getf K fd_RM_40 d_RM_code_25 rfl rfl rfl ?_
    refine aw_bipush K d_RM_code_28 rfl (v := 12) (by decide) ?_
    refine aw_iload_n K d_RM_code_30 rfl rfl ?_
    refine aw_imul K d_RM_code_31 rfl ?_
    refine aw_iconst K d_RM_code_32 rfl (v := 4) (by decide) ?_
    refine aw_iadd K d_RM_code_33 rfl ?_
    refine aw_iald K d_RM_code_34 rfl rfl h.1 ?_
    replace h := h.2
    refine aw_goto K d_RM_code_35 (n := 39) (by decide) ?_
    exact h
set_option maxRecDepth 20000 in
theorem x_RM_code_39 {X : am_X} {dd bc bs : Nat} (K : am_ok X b_RM_code R_RM 3 dd) {post : Option am_V → List am_C → Prop} (hr : am_rt X (some .int) post) {sp_RM_isOf : am_S} {dd_RM_isOf : Nat} (c_RM_isOf : Con y_RM_isOf b_RM_isOf 2 (some .boolean) dd_RM_isOf 0 0 false sp_RM_isOf) (hdd_RM_isOf : dd_RM_isOf + 1 ≤ dd) {l1 l2 s0 s1 x_thrown x_nodes x_room x_states x_kinds x_rules x_numberings x_wholes x_gone x_steps x_old x_stuck x_answer x_badWhole x_same x_at : Int32} {x_rows : Nat → Int32} {c1 c2 c3 c4 c5 c6 c7 c8 c10 c11 c12 c13 c14 c15 c16 c17 c18 : am_C}
    (h : sp_RM_isOf [aI s1, aI s0] [oC 5 [aI x_thrown, aI x_nodes, aI x_room, aI x_states, aI x_kinds, aI x_rules, aR 1, aR 2, aR 3, aR 4, aR 5, aR 6, aR 7, aR 8, aI x_numberings, aI x_wholes, aI x_gone, aI x_steps, aI x_old, aI x_stuck, aI x_answer, aI x_badWhole, aR 9, aR 10, aR 11, aR 12, aR 13, aR 14, aR 15, aR 16, aR 17, aR 18, aI x_same, aI x_at], c1, c2, c3, c4, c5, c6, c7, c8, iC 98304 x_rows, c10, c11, c12, c13, c14, c15, c16, c17, c18] (fun rv w' => AW X 42 [some (aR 0), some (aI l1), some (aI l2)] (rv.toList ++ [aR 0]) w' bc bs)) :
    AW X 39 [some (aR 0), some (aI l1), some (aI l2)] [aI s0, aI s1, aR 0] [oC 5 [aI x_thrown, aI x_nodes, aI x_room, aI x_states, aI x_kinds, aI x_rules, aR 1, aR 2, aR 3, aR 4, aR 5, aR 6, aR 7, aR 8, aI x_numberings, aI x_wholes, aI x_gone, aI x_steps, aI x_old, aI x_stuck, aI x_answer, aI x_badWhole, aR 9, aR 10, aR 11, aR 12, aR 13, aR 14, aR 15, aR 16, aR 17, aR 18, aI x_same, aI x_at], c1, c2, c3, c4, c5, c6, c7, c8, iC 98304 x_rows, c10, c11, c12, c13, c14, c15, c16, c17, c18] bc bs := by
  exact aw_callS K c_RM_isOf cb_RM_113 ct_RM_isOf hdd_RM_isOf d_RM_code_39 rfl (av := [aI s1, aI s0]) rfl (Nat.le_of_ble_eq_true rfl) h (fun rv w' hF => hF)
set_option maxRecDepth 20000 in
theorem x_RM_code_42 {X : am_X} {dd bc bs : Nat} (K : am_ok X b_RM_code R_RM 3 dd) {post : Option am_V → List am_C → Prop} (hr : am_rt X (some .int) post) {l1 l2 s0 x_thrown x_nodes x_room x_states x_kinds x_rules x_numberings x_wholes x_gone x_steps x_old x_stuck x_answer x_badWhole x_same x_at : Int32} {x_rows : Nat → Int32} {c1 c2 c3 c4 c5 c6 c7 c8 c10 c11 c12 c13 c14 c15 c16 c17 c18 : am_C}
    (h : (¬ s0 = 0 → AW X 50 [some (aR 0), some (aI l1), some (aI l2)] [aI 0, aR 0] [oC 5 [aI x_thrown, aI x_nodes, aI x_room, aI x_states, aI x_kinds, aI x_rules, aR 1, aR 2, aR 3, aR 4, aR 5, aR 6, aR 7, aR 8, aI x_numberings, aI x_wholes, aI x_gone, aI x_steps, aI x_old, aI x_stuck, aI x_answer, aI x_badWhole, aR 9, aR 10, aR 11, aR 12, aR 13, aR 14, aR 15, aR 16, aR 17, aR 18, aI x_same, aI x_at], c1, c2, c3, c4, c5, c6, c7, c8, iC 98304 x_rows, c10, c11, c12, c13, c14, c15, c16, c17, c18] bc bs) ∧ (s0 = 0 → AW X 45 [some (aR 0), some (aI l1), some (aI l2)] [aR 0] [oC 5 [aI x_thrown, aI x_nodes, aI x_room, aI x_states, aI x_kinds, aI x_rules, aR 1, aR 2, aR 3, aR 4, aR 5, aR 6, aR 7, aR 8, aI x_numberings, aI x_wholes, aI x_gone, aI x_steps, aI x_old, aI x_stuck, aI x_answer, aI x_badWhole, aR 9, aR 10, aR 11, aR 12, aR 13, aR 14, aR 15, aR 16, aR 17, aR 18, aI x_same, aI x_at], c1, c2, c3, c4, c5, c6, c7, c8, iC 98304 x_rows, c10, c11, c12, c13, c14, c15, c16, c17, c18] bc bs)) :
    AW X 42 [some (aR 0), some (aI l1), some (aI l2)] [aI s0, aR 0] [oC 5 [aI x_thrown, aI x_nodes, aI x_room, aI x_states, aI x_kinds, aI x_rules, aR 1, aR 2, aR 3, aR 4, aR 5, aR 6, aR 7, aR 8, aI x_numberings, aI x_wholes, aI x_gone, aI x_steps, aI x_old, aI x_stuck, aI x_answer, aI x_badWhole, aR 9, aR 10, aR 11, aR 12, aR 13, aR 14, aR 15, aR 16, aR 17, aR 18, aI x_same, aI x_at], c1, c2, c3, c4, c5, c6, c7, c8, iC 98304 x_rows, c10, c11, c12, c13, c14, c15, c16, c17, c18] bc bs := by
  refine aw_if_ne K d_RM_code_42 (t := 49) (by decide) rfl (fun q => ?_) (fun q => ?_)
  · replace h := h.1 q
    refine aw_iconst K d_RM_code_49 rfl (v := 0) (by decide) ?_
    exact h
  · replace h := h.2 q
    exact h
set_option maxRecDepth 20000 in
theorem x_RM_code_45 {X : am_X} {dd bc bs : Nat} (K : am_ok X b_RM_code R_RM 3 dd) {post : Option am_V → List am_C → Prop} (hr : am_rt X (some .int) post) {l1 l2 x_thrown x_nodes x_room x_states x_kinds x_rules x_numberings x_wholes x_gone x_steps x_old x_stuck x_answer x_badWhole x_same x_at : Int32} {x_rows : Nat → Int32} {c1 c2 c3 c4 c5 c6 c7 c8 c10 c11 c12 c13 c14 c15 c16 c17 c18 : am_C}
    (h : AW X 50 [some (aR 0), some (aI l1), some (aI l2)] [aI 1, aR 0] [oC 5 [aI x_thrown, aI x_nodes, aI x_room, aI x_states, aI x_kinds, aI x_rules, aR 1, aR 2, aR 3, aR 4, aR 5, aR 6, aR 7, aR 8, aI x_numberings, aI x_wholes, aI x_gone, aI x_steps, aI x_old, aI x_stuck, aI x_answer, aI x_badWhole, aR 9, aR 10, aR 11, aR 12, aR 13, aR 14, aR 15, aR 16, aR 17, aR 18, aI x_same, aI x_at], c1, c2, c3, c4, c5, c6, c7, c8, iC 98304 x_rows, c10, c11, c12, c13, c14, c15, c16, c17, c18] bc bs) :
    AW X 45 [some (aR 0), some (aI l1), some (aI l2)] [aR 0] [oC 5 [aI x_thrown, aI x_nodes, aI x_room, aI x_states, aI x_kinds, aI x_rules, aR 1, aR 2, aR 3, aR 4, aR 5, aR 6, aR 7, aR 8, aI x_numberings, aI x_wholes, aI x_gone, aI x_steps, aI x_old, aI x_stuck, aI x_answer, aI x_badWhole, aR 9, aR 10, aR 11, aR 12, aR 13, aR 14, aR 15, aR 16, aR 17, aR 18, aI x_same, aI x_at], c1, c2, c3, c4, c5, c6, c7, c8, iC 98304 x_rows, c10, c11, c12, c13, c14, c15, c16, c17, c18] bc bs := by
  refine aw_iconst K d_RM_code_45 rfl (v := 1) (by decide) ?_
  refine aw_goto K d_RM_code_46 (n := 50) (by decide) ?_
  exact h
set_option maxRecDepth 20000 in
theorem x_RM_code_50 {X : am_X} {dd bc bs : Nat} (K : am_ok X b_RM_code R_RM 3 dd) {post : Option am_V → List am_C → Prop} (hr : am_rt X (some .int) post) {sp_RM_throwing : am_S} {dd_RM_throwing : Nat} (c_RM_throwing : Con y_RM_throwing b_RM_throwing 3 (some .boolean) dd_RM_throwing 0 0 false sp_RM_throwing) (hdd_RM_throwing : dd_RM_throwing + 1 ≤ dd) {l1 l2 s0 x_thrown x_nodes x_room x_states x_kinds x_rules x_numberings x_wholes x_gone x_steps x_old x_stuck x_answer x_badWhole x_same x_at : Int32} {x_rows : Nat → Int32} {c1 c2 c3 c4 c5 c6 c7 c8 c10 c11 c12 c13 c14 c15 c16 c17 c18 : am_C}
    (h : sp_RM_throwing [aR 0, aI s0, aI 0] [oC 5 [aI x_thrown, aI x_nodes, aI x_room, aI x_states, aI x_kinds, aI x_rules, aR 1, aR 2, aR 3, aR 4, aR 5, aR 6, aR 7, aR 8, aI x_numberings, aI x_wholes, aI x_gone, aI x_steps, aI x_old, aI x_stuck, aI x_answer, aI x_badWhole, aR 9, aR 10, aR 11, aR 12, aR 13, aR 14, aR 15, aR 16, aR 17, aR 18, aI x_same, aI x_at], c1, c2, c3, c4, c5, c6, c7, c8, iC 98304 x_rows, c10, c11, c12, c13, c14, c15, c16, c17, c18] (fun rv w' => AW X 54 [some (aR 0), some (aI l1), some (aI l2)] (rv.toList ++ []) w' bc bs)) :
    AW X 50 [some (aR 0), some (aI l1), some (aI l2)] [aI s0, aR 0] [oC 5 [aI x_thrown, aI x_nodes, aI x_room, aI x_states, aI x_kinds, aI x_rules, aR 1, aR 2, aR 3, aR 4, aR 5, aR 6, aR 7, aR 8, aI x_numberings, aI x_wholes, aI x_gone, aI x_steps, aI x_old, aI x_stuck, aI x_answer, aI x_badWhole, aR 9, aR 10, aR 11, aR 12, aR 13, aR 14, aR 15, aR 16, aR 17, aR 18, aI x_same, aI x_at], c1, c2, c3, c4, c5, c6, c7, c8, iC 98304 x_rows, c10, c11, c12, c13, c14, c15, c16, c17, c18] bc bs := by
  refine aw_iconst K d_RM_code_50 rfl (v := 0) (by decide) ?_
  exact aw_callV K c_RM_throwing cb_RM_103 ci_RM_throwing cs_RM_throwing hdd_RM_throwing (k := 0) rfl rfl d_RM_code_51 rfl (av := [aI s0, aI 0]) rfl (Nat.le_of_ble_eq_true rfl) h (fun rv w' hF => hF)
set_option maxRecDepth 20000 in
theorem x_RM_code_54 {X : am_X} {dd bc bs : Nat} (K : am_ok X b_RM_code R_RM 3 dd) {post : Option am_V → List am_C → Prop} (hr : am_rt X (some .int) post) {l1 l2 s0 x_thrown x_nodes x_room x_states x_kinds x_rules x_numberings x_wholes x_gone x_steps x_old x_stuck x_answer x_badWhole x_same x_at : Int32} {x_rows : Nat → Int32} {c1 c2 c3 c4 c5 c6 c7 c8 c10 c11 c12 c13 c14 c15 c16 c17 c18 : am_C}
    (h : (s0 = 0 → vp_in ((((12 : Int32) * l1) + (5 : Int32)) + l2) 98304 ∧ post (some (aI (x_rows ((((12 : Int32) * l1) + (5 : Int32)) + l2).toNatClampNeg))) [oC 5 [aI x_thrown, aI x_nodes, aI x_room, aI x_states, aI x_kinds, aI x_rules, aR 1, aR 2, aR 3, aR 4, aR 5, aR 6, aR 7, aR 8, aI x_numberings, aI x_wholes, aI x_gone, aI x_steps, aI x_old, aI x_stuck, aI x_answer, aI x_badWhole, aR 9, aR 10, aR 11, aR 12, aR 13, aR 14, aR 15, aR 16, aR 17, aR 18, aI x_same, aI x_at], c1, c2, c3, c4, c5, c6, c7, c8, iC 98304 x_rows, c10, c11, c12, c13, c14, c15, c16, c17, c18]) ∧ (¬ s0 = 0 → post (some (aI 0)) [oC 5 [aI x_thrown, aI x_nodes, aI x_room, aI x_states, aI x_kinds, aI x_rules, aR 1, aR 2, aR 3, aR 4, aR 5, aR 6, aR 7, aR 8, aI x_numberings, aI x_wholes, aI x_gone, aI x_steps, aI x_old, aI x_stuck, aI x_answer, aI x_badWhole, aR 9, aR 10, aR 11, aR 12, aR 13, aR 14, aR 15, aR 16, aR 17, aR 18, aI x_same, aI x_at], c1, c2, c3, c4, c5, c6, c7, c8, iC 98304 x_rows, c10, c11, c12, c13, c14, c15, c16, c17, c18])) :
    AW X 54 [some (aR 0), some (aI l1), some (aI l2)] [aI s0] [oC 5 [aI x_thrown, aI x_nodes, aI x_room, aI x_states, aI x_kinds, aI x_rules, aR 1, aR 2, aR 3, aR 4, aR 5, aR 6, aR 7, aR 8, aI x_numberings, aI x_wholes, aI x_gone, aI x_steps, aI x_old, aI x_stuck, aI x_answer, aI x_badWhole, aR 9, aR 10, aR 11, aR 12, aR 13, aR 14, aR 15, aR 16, aR 17, aR 18, aI x_same, aI x_at], c1, c2, c3, c4, c5, c6, c7, c8, iC 98304 x_rows, c10, c11, c12, c13, c14, c15, c16, c17, c18] bc bs := by
  refine aw_if_eq K d_RM_code_54 (t := 59) (by decide) rfl (fun q => ?_) (fun q => ?_)
  · replace h := h.1 q
    refine aw_aload_n K d_RM_code_59 rfl rfl ?_
    refine aw_getf K fd_RM_40 d_RM_code_60 rfl rfl rfl ?_
    refine aw_bipush K d_RM_code_63 rfl (v := 12) (by decide) ?_
    refine aw_iload_n K d_RM_code_65 rfl rfl ?_
    refine aw_imul K d_RM_code_66 rfl ?_
    refine aw_iconst K d_RM_code_67 rfl (v := 5) (by decide) ?_
    refine aw_iadd K d_RM_code_68 rfl ?_
    refine aw_iload_n K d_RM_code_69 rfl rfl ?_
    refine aw_iadd K d_RM_code_70 rfl ?_
    refine aw_iald K d_RM_code_71 rfl rfl h.1 ?_
    replace h := h.2
    exact aw_iret K hr d_RM_code_72 h
  · replace h := h.2 q
    refine aw_iconst K d_RM_code_57 rfl (v := 0) (by decide) ?_
    exact aw_iret K hr d_RM_code_58 h
set_option maxRecDepth 20000 in
theorem x_RM_whole_0 {X : am_X} {dd bc bs : Nat} (K : am_ok X b_RM_whole R_RM 3 dd) {post : Option am_V → List am_C → Prop} (hr : am_rt X (some .int) post) {sp_RM_isOf : am_S} {dd_RM_isOf : Nat} (c_RM_isOf : Con y_RM_isOf b_RM_isOf 2 (some .boolean) dd_RM_isOf 0 0 false sp_RM_isOf) (hdd_RM_isOf : dd_RM_isOf + 1 ≤ dd) {l1 l2 x_thrown x_nodes x_room x_states x_kinds x_rules x_numberings x_wholes x_gone x_steps x_old x_stuck x_answer x_badWhole x_same x_at : Int32} {x_rows x_level x_parent x_byRule x_stepsOf x_alike : Nat → Int32} {c1 c2 c3 c4 c5 c6 c7 c8 c10 c16 c17 c18 : am_C}
    (h : sp_RM_isOf [aI l1, aI x_wholes] [oC 5 [aI x_thrown, aI x_nodes, aI x_room, aI x_states, aI x_kinds, aI x_rules, aR 1, aR 2, aR 3, aR 4, aR 5, aR 6, aR 7, aR 8, aI x_numberings, aI x_wholes, aI x_gone, aI x_steps, aI x_old, aI x_stuck, aI x_answer, aI x_badWhole, aR 9, aR 10, aR 11, aR 12, aR 13, aR 14, aR 15, aR 16, aR 17, aR 18, aI x_same, aI x_at], c1, c2, c3, c4, c5, c6, c7, c8, iC 98304 x_rows, c10, iC 8192 x_level, iC 8192 x_parent, iC 8192 x_byRule, iC 8192 x_stepsOf, iC 8192 x_alike, c16, c17, c18] (fun rv w' => AW X 9 [some (aR 0), some (aI l1), some (aI l2)] (rv.toList ++ [aR 0]) w' bc bs)) :
    AW X 0 [some (aR 0), some (aI l1), some (aI l2)] [] [oC 5 [aI x_thrown, aI x_nodes, aI x_room, aI x_states, aI x_kinds, aI x_rules, aR 1, aR 2, aR 3, aR 4, aR 5, aR 6, aR 7, aR 8, aI x_numberings, aI x_wholes, aI x_gone, aI x_steps, aI x_old, aI x_stuck, aI x_answer, aI x_badWhole, aR 9, aR 10, aR 11, aR 12, aR 13, aR 14, aR 15, aR 16, aR 17, aR 18, aI x_same, aI x_at], c1, c2, c3, c4, c5, c6, c7, c8, iC 98304 x_rows, c10, iC 8192 x_level, iC 8192 x_parent, iC 8192 x_byRule, iC 8192 x_stepsOf, iC 8192 x_alike, c16, c17, c18] bc bs := by
  refine aw_aload_n K d_RM_whole_0 rfl rfl ?_
  refine aw_iload_n K d_RM_whole_1 rfl rfl ?_
  refine aw_aload_n K d_RM_whole_2 rfl rfl ?_
  refine aw_getf K fd_RM_82 d_RM_whole_3 rfl rfl rfl ?_
  exact aw_callS K c_RM_isOf cb_RM_113 ct_RM_isOf hdd_RM_isOf d_RM_whole_6 rfl (av := [aI l1, aI x_wholes]) rfl (Nat.le_of_ble_eq_true rfl) h (fun rv w' hF => hF)
set_option maxRecDepth 20000 in
theorem x_RM_whole_9 {X : am_X} {dd bc bs : Nat} (K : am_ok X b_RM_whole R_RM 3 dd) {post : Option am_V → List am_C → Prop} (hr : am_rt X (some .int) post) {sp_RM_isOf : am_S} {dd_RM_isOf : Nat} (c_RM_isOf : Con y_RM_isOf b_RM_isOf 2 (some .boolean) dd_RM_isOf 0 0 false sp_RM_isOf) (hdd_RM_isOf : dd_RM_isOf + 1 ≤ dd) {l1 l2 s0 x_thrown x_nodes x_room x_states x_kinds x_rules x_numberings x_wholes x_gone x_steps x_old x_stuck x_answer x_badWhole x_same x_at : Int32} {x_rows x_level x_parent x_byRule x_stepsOf x_alike : Nat → Int32} {c1 c2 c3 c4 c5 c6 c7 c8 c10 c16 c17 c18 : am_C}
    (h : (s0 = 0 → AW X 21 [some (aR 0), some (aI l1), some (aI l2)] [aR 0] [oC 5 [aI x_thrown, aI x_nodes, aI x_room, aI x_states, aI x_kinds, aI x_rules, aR 1, aR 2, aR 3, aR 4, aR 5, aR 6, aR 7, aR 8, aI x_numberings, aI x_wholes, aI x_gone, aI x_steps, aI x_old, aI x_stuck, aI x_answer, aI x_badWhole, aR 9, aR 10, aR 11, aR 12, aR 13, aR 14, aR 15, aR 16, aR 17, aR 18, aI x_same, aI x_at], c1, c2, c3, c4, c5, c6, c7, c8, iC 98304 x_rows, c10, iC 8192 x_level, iC 8192 x_parent, iC 8192 x_byRule, iC 8192 x_stepsOf, iC 8192 x_alike, c16, c17, c18] bc bs) ∧ (¬ s0 = 0 → sp_RM_isOf [aI l2, aI 6] [oC 5 [aI x_thrown, aI x_nodes, aI x_room, aI x_states, aI x_kinds, aI x_rules, aR 1, aR 2, aR 3, aR 4, aR 5, aR 6, aR 7, aR 8, aI x_numberings, aI x_wholes, aI x_gone, aI x_steps, aI x_old, aI x_stuck, aI x_answer, aI x_badWhole, aR 9, aR 10, aR 11, aR 12, aR 13, aR 14, aR 15, aR 16, aR 17, aR 18, aI x_same, aI x_at], c1, c2, c3, c4, c5, c6, c7, c8, iC 98304 x_rows, c10, iC 8192 x_level, iC 8192 x_parent, iC 8192 x_byRule, iC 8192 x_stepsOf, iC 8192 x_alike, c16, c17, c18] (fun rv w' => AW X 18 [some (aR 0), some (aI l1), some (aI l2)] (rv.toList ++ [aR 0]) w' bc bs))) :
    AW X 9 [some (aR 0), some (aI l1), some (aI l2)] [aI s0, aR 0] [oC 5 [aI x_thrown, aI x_nodes, aI x_room, aI x_states, aI x_kinds, aI x_rules, aR 1, aR 2, aR 3, aR 4, aR 5, aR 6, aR 7, aR 8, aI x_numberings, aI x_wholes, aI x_gone, aI x_steps, aI x_old, aI x_stuck, aI x_answer, aI x_badWhole, aR 9, aR 10, aR 11, aR 12, aR 13, aR 14, aR 15, aR 16, aR 17, aR 18, aI x_same, aI x_at], c1, c2, c3, c4, c5, c6, c7, c8, iC 98304 x_rows, c10, iC 8192 x_level, iC 8192 x_parent, iC 8192 x_byRule, iC 8192 x_stepsOf, iC 8192 x_alike, c16, c17, c18] bc bs := by
  refine aw_if_eq K d_RM_whole_9 (t := 21) (by decide) rfl (fun q => ?_) (fun q => ?_)
  · replace h := h.1 q
    exact h
  · replace h := h.2 q
    refine aw_iload_n K d_RM_whole_12 rfl rfl ?_
    refine aw_bipush K d_RM_whole_13 rfl (v := 6) (by decide) ?_
    exact aw_callS K c_RM_isOf cb_RM_113 ct_RM_isOf hdd_RM_isOf d_RM_whole_15 rfl (av := [aI l2, aI 6]) rfl (Nat.le_of_ble_eq_true rfl) h (fun rv w' hF => hF)
set_option maxRecDepth 20000 in
theorem x_RM_whole_18 {X : am_X} {dd bc bs : Nat} (K : am_ok X b_RM_whole R_RM 3 dd) {post : Option am_V → List am_C → Prop} (hr : am_rt X (some .int) post) {l1 l2 s0 x_thrown x_nodes x_room x_states x_kinds x_rules x_numberings x_wholes x_gone x_steps x_old x_stuck x_answer x_badWhole x_same x_at : Int32} {x_rows x_level x_parent x_byRule x_stepsOf x_alike : Nat → Int32} {c1 c2 c3 c4 c5 c6 c7 c8 c10 c16 c17 c18 : am_C}
    (h : (¬ s0 = 0 → AW X 26 [some (aR 0), some (aI l1), some (aI l2)] [aI 0, aR 0] [oC 5 [aI x_thrown, aI x_nodes, aI x_room, aI x_states, aI x_kinds, aI x_rules, aR 1, aR 2, aR 3, aR 4, aR 5, aR 6, aR 7, aR 8, aI x_numberings, aI x_wholes, aI x_gone, aI x_steps, aI x_old, aI x_stuck, aI x_answer, aI x_badWhole, aR 9, aR 10, aR 11, aR 12, aR 13, aR 14, aR 15, aR 16, aR 17, aR 18, aI x_same, aI x_at], c1, c2, c3, c4, c5, c6, c7, c8, iC 98304 x_rows, c10, iC 8192 x_level, iC 8192 x_parent, iC 8192 x_byRule, iC 8192 x_stepsOf, iC 8192 x_alike, c16, c17, c18] bc bs) ∧ (s0 = 0 → AW X 21 [some (aR 0), some (aI l1), some (aI l2)] [aR 0] [oC 5 [aI x_thrown, aI x_nodes, aI x_room, aI x_states, aI x_kinds, aI x_rules, aR 1, aR 2, aR 3, aR 4, aR 5, aR 6, aR 7, aR 8, aI x_numberings, aI x_wholes, aI x_gone, aI x_steps, aI x_old, aI x_stuck, aI x_answer, aI x_badWhole, aR 9, aR 10, aR 11, aR 12, aR 13, aR 14, aR 15, aR 16, aR 17, aR 18, aI x_same, aI x_at], c1, c2, c3, c4, c5, c6, c7, c8, iC 98304 x_rows, c10, iC 8192 x_level, iC 8192 x_parent, iC 8192 x_byRule, iC 8192 x_stepsOf, iC 8192 x_alike, c16, c17, c18] bc bs)) :
    AW X 18 [some (aR 0), some (aI l1), some (aI l2)] [aI s0, aR 0] [oC 5 [aI x_thrown, aI x_nodes, aI x_room, aI x_states, aI x_kinds, aI x_rules, aR 1, aR 2, aR 3, aR 4, aR 5, aR 6, aR 7, aR 8, aI x_numberings, aI x_wholes, aI x_gone, aI x_steps, aI x_old, aI x_stuck, aI x_answer, aI x_badWhole, aR 9, aR 10, aR 11, aR 12, aR 13, aR 14, aR 15, aR 16, aR 17, aR 18, aI x_same, aI x_at], c1, c2, c3, c4, c5, c6, c7, c8, iC 98304 x_rows, c10, iC 8192 x_level, iC 8192 x_parent, iC 8192 x_byRule, iC 8192 x_stepsOf, iC 8192 x_alike, c16, c17, c18] bc bs := by
  refine aw_if_ne K d_RM_whole_18 (t := 25) (by decide) rfl (fun q => ?_) (fun q => ?_)
  · replace h := h.1 q
    refine aw_iconst K d_RM_whole_25 rfl (v := 0) (by decide) ?_
    exact h
  · replace h := h.2 q
    exact h
set_option maxRecDepth 20000 in
theorem x_RM_whole_21 {X : am_X} {dd bc bs : Nat} (K : am_ok X b_RM_whole R_RM 3 dd) {post : Option am_V → List am_C → Prop} (hr : am_rt X (some .int) post) {l1 l2 x_thrown x_nodes x_room x_states x_kinds x_rules x_numberings x_wholes x_gone x_steps x_old x_stuck x_answer x_badWhole x_same x_at : Int32} {x_rows x_level x_parent x_byRule x_stepsOf x_alike : Nat → Int32} {c1 c2 c3 c4 c5 c6 c7 c8 c10 c16 c17 c18 : am_C}
    (h : AW X 26 [some (aR 0), some (aI l1), some (aI l2)] [aI 1, aR 0] [oC 5 [aI x_thrown, aI x_nodes, aI x_room, aI x_states, aI x_kinds, aI x_rules, aR 1, aR 2, aR 3, aR 4, aR 5, aR 6, aR 7, aR 8, aI x_numberings, aI x_wholes, aI x_gone, aI x_steps, aI x_old, aI x_stuck, aI x_answer, aI x_badWhole, aR 9, aR 10, aR 11, aR 12, aR 13, aR 14, aR 15, aR 16, aR 17, aR 18, aI x_same, aI x_at], c1, c2, c3, c4, c5, c6, c7, c8, iC 98304 x_rows, c10, iC 8192 x_level, iC 8192 x_parent, iC 8192 x_byRule, iC 8192 x_stepsOf, iC 8192 x_alike, c16, c17, c18] bc bs) :
    AW X 21 [some (aR 0), some (aI l1), some (aI l2)] [aR 0] [oC 5 [aI x_thrown, aI x_nodes, aI x_room, aI x_states, aI x_kinds, aI x_rules, aR 1, aR 2, aR 3, aR 4, aR 5, aR 6, aR 7, aR 8, aI x_numberings, aI x_wholes, aI x_gone, aI x_steps, aI x_old, aI x_stuck, aI x_answer, aI x_badWhole, aR 9, aR 10, aR 11, aR 12, aR 13, aR 14, aR 15, aR 16, aR 17, aR 18, aI x_same, aI x_at], c1, c2, c3, c4, c5, c6, c7, c8, iC 98304 x_rows, c10, iC 8192 x_level, iC 8192 x_parent, iC 8192 x_byRule, iC 8192 x_stepsOf, iC 8192 x_alike, c16, c17, c18] bc bs := by
  refine aw_iconst K d_RM_whole_21 rfl (v := 1) (by decide) ?_
  refine aw_goto K d_RM_whole_22 (n := 26) (by decide) ?_
  exact h
set_option maxRecDepth 20000 in
theorem x_RM_whole_26 {X : am_X} {dd bc bs : Nat} (K : am_ok X b_RM_whole R_RM 3 dd) {post : Option am_V → List am_C → Prop} (hr : am_rt X (some .int) post) {sp_RM_throwing : am_S} {dd_RM_throwing : Nat} (c_RM_throwing : Con y_RM_throwing b_RM_throwing 3 (some .boolean) dd_RM_throwing 0 0 false sp_RM_throwing) (hdd_RM_throwing : dd_RM_throwing + 1 ≤ dd) {l1 l2 s0 x_thrown x_nodes x_room x_states x_kinds x_rules x_numberings x_wholes x_gone x_steps x_old x_stuck x_answer x_badWhole x_same x_at : Int32} {x_rows x_level x_parent x_byRule x_stepsOf x_alike : Nat → Int32} {c1 c2 c3 c4 c5 c6 c7 c8 c10 c16 c17 c18 : am_C}
    (h : sp_RM_throwing [aR 0, aI s0, aI 0] [oC 5 [aI x_thrown, aI x_nodes, aI x_room, aI x_states, aI x_kinds, aI x_rules, aR 1, aR 2, aR 3, aR 4, aR 5, aR 6, aR 7, aR 8, aI x_numberings, aI x_wholes, aI x_gone, aI x_steps, aI x_old, aI x_stuck, aI x_answer, aI x_badWhole, aR 9, aR 10, aR 11, aR 12, aR 13, aR 14, aR 15, aR 16, aR 17, aR 18, aI x_same, aI x_at], c1, c2, c3, c4, c5, c6, c7, c8, iC 98304 x_rows, c10, iC 8192 x_level, iC 8192 x_parent, iC 8192 x_byRule, iC 8192 x_stepsOf, iC 8192 x_alike, c16, c17, c18] (fun rv w' => AW X 30 [some (aR 0), some (aI l1), some (aI l2)] (rv.toList ++ []) w' bc bs)) :
    AW X 26 [some (aR 0), some (aI l1), some (aI l2)] [aI s0, aR 0] [oC 5 [aI x_thrown, aI x_nodes, aI x_room, aI x_states, aI x_kinds, aI x_rules, aR 1, aR 2, aR 3, aR 4, aR 5, aR 6, aR 7, aR 8, aI x_numberings, aI x_wholes, aI x_gone, aI x_steps, aI x_old, aI x_stuck, aI x_answer, aI x_badWhole, aR 9, aR 10, aR 11, aR 12, aR 13, aR 14, aR 15, aR 16, aR 17, aR 18, aI x_same, aI x_at], c1, c2, c3, c4, c5, c6, c7, c8, iC 98304 x_rows, c10, iC 8192 x_level, iC 8192 x_parent, iC 8192 x_byRule, iC 8192 x_stepsOf, iC 8192 x_alike, c16, c17, c18] bc bs := by
  refine aw_iconst K d_RM_whole_26 rfl (v := 0) (by decide) ?_
  exact aw_callV K c_RM_throwing cb_RM_103 ci_RM_throwing cs_RM_throwing hdd_RM_throwing (k := 0) rfl rfl d_RM_whole_27 rfl (av := [aI s0, aI 0]) rfl (Nat.le_of_ble_eq_true rfl) h (fun rv w' hF => hF)
set_option maxRecDepth 20000 in
theorem x_RM_whole_30 {X : am_X} {dd bc bs : Nat} (K : am_ok X b_RM_whole R_RM 3 dd) {post : Option am_V → List am_C → Prop} (hr : am_rt X (some .int) post) {l1 l2 s0 x_thrown x_nodes x_room x_states x_kinds x_rules x_numberings x_wholes x_gone x_steps x_old x_stuck x_answer x_badWhole x_same x_at : Int32} {x_rows x_level x_parent x_byRule x_stepsOf x_alike : Nat → Int32} {c1 c2 c3 c4 c5 c6 c7 c8 c10 c16 c17 c18 : am_C}
    (h : (s0 = 0 → (l2 = 0 → vp_in (((12 : Int32) * l1) + (4 : Int32)) 98304 ∧ post (some (aI (x_rows (((12 : Int32) * l1) + (4 : Int32)).toNatClampNeg))) [oC 5 [aI x_thrown, aI x_nodes, aI x_room, aI x_states, aI x_kinds, aI x_rules, aR 1, aR 2, aR 3, aR 4, aR 5, aR 6, aR 7, aR 8, aI x_numberings, aI x_wholes, aI x_gone, aI x_steps, aI x_old, aI x_stuck, aI x_answer, aI x_badWhole, aR 9, aR 10, aR 11, aR 12, aR 13, aR 14, aR 15, aR 16, aR 17, aR 18, aI x_same, aI x_at], c1, c2, c3, c4, c5, c6, c7, c8, iC 98304 x_rows, c10, iC 8192 x_level, iC 8192 x_parent, iC 8192 x_byRule, iC 8192 x_stepsOf, iC 8192 x_alike, c16, c17, c18]) ∧ (l2 = 1 → vp_in l1 8192 ∧ post (some (aI (x_level l1.toNatClampNeg))) [oC 5 [aI x_thrown, aI x_nodes, aI x_room, aI x_states, aI x_kinds, aI x_rules, aR 1, aR 2, aR 3, aR 4, aR 5, aR 6, aR 7, aR 8, aI x_numberings, aI x_wholes, aI x_gone, aI x_steps, aI x_old, aI x_stuck, aI x_answer, aI x_badWhole, aR 9, aR 10, aR 11, aR 12, aR 13, aR 14, aR 15, aR 16, aR 17, aR 18, aI x_same, aI x_at], c1, c2, c3, c4, c5, c6, c7, c8, iC 98304 x_rows, c10, iC 8192 x_level, iC 8192 x_parent, iC 8192 x_byRule, iC 8192 x_stepsOf, iC 8192 x_alike, c16, c17, c18]) ∧ (l2 = 2 → vp_in l1 8192 ∧ post (some (aI (x_parent l1.toNatClampNeg))) [oC 5 [aI x_thrown, aI x_nodes, aI x_room, aI x_states, aI x_kinds, aI x_rules, aR 1, aR 2, aR 3, aR 4, aR 5, aR 6, aR 7, aR 8, aI x_numberings, aI x_wholes, aI x_gone, aI x_steps, aI x_old, aI x_stuck, aI x_answer, aI x_badWhole, aR 9, aR 10, aR 11, aR 12, aR 13, aR 14, aR 15, aR 16, aR 17, aR 18, aI x_same, aI x_at], c1, c2, c3, c4, c5, c6, c7, c8, iC 98304 x_rows, c10, iC 8192 x_level, iC 8192 x_parent, iC 8192 x_byRule, iC 8192 x_stepsOf, iC 8192 x_alike, c16, c17, c18]) ∧ (l2 = 3 → vp_in l1 8192 ∧ post (some (aI (x_byRule l1.toNatClampNeg))) [oC 5 [aI x_thrown, aI x_nodes, aI x_room, aI x_states, aI x_kinds, aI x_rules, aR 1, aR 2, aR 3, aR 4, aR 5, aR 6, aR 7, aR 8, aI x_numberings, aI x_wholes, aI x_gone, aI x_steps, aI x_old, aI x_stuck, aI x_answer, aI x_badWhole, aR 9, aR 10, aR 11, aR 12, aR 13, aR 14, aR 15, aR 16, aR 17, aR 18, aI x_same, aI x_at], c1, c2, c3, c4, c5, c6, c7, c8, iC 98304 x_rows, c10, iC 8192 x_level, iC 8192 x_parent, iC 8192 x_byRule, iC 8192 x_stepsOf, iC 8192 x_alike, c16, c17, c18]) ∧ (l2 = 4 → vp_in l1 8192 ∧ post (some (aI (x_stepsOf l1.toNatClampNeg))) [oC 5 [aI x_thrown, aI x_nodes, aI x_room, aI x_states, aI x_kinds, aI x_rules, aR 1, aR 2, aR 3, aR 4, aR 5, aR 6, aR 7, aR 8, aI x_numberings, aI x_wholes, aI x_gone, aI x_steps, aI x_old, aI x_stuck, aI x_answer, aI x_badWhole, aR 9, aR 10, aR 11, aR 12, aR 13, aR 14, aR 15, aR 16, aR 17, aR 18, aI x_same, aI x_at], c1, c2, c3, c4, c5, c6, c7, c8, iC 98304 x_rows, c10, iC 8192 x_level, iC 8192 x_parent, iC 8192 x_byRule, iC 8192 x_stepsOf, iC 8192 x_alike, c16, c17, c18]) ∧ (l2.toInt < 0 ∨ 4 < l2.toInt → vp_in l1 8192 ∧ post (some (aI (x_alike l1.toNatClampNeg))) [oC 5 [aI x_thrown, aI x_nodes, aI x_room, aI x_states, aI x_kinds, aI x_rules, aR 1, aR 2, aR 3, aR 4, aR 5, aR 6, aR 7, aR 8, aI x_numberings, aI x_wholes, aI x_gone, aI x_steps, aI x_old, aI x_stuck, aI x_answer, aI x_badWhole, aR 9, aR 10, aR 11, aR 12, aR 13, aR 14, aR 15, aR 16, aR 17, aR 18, aI x_same, aI x_at], c1, c2, c3, c4, c5, c6, c7, c8, iC 98304 x_rows, c10, iC 8192 x_level, iC 8192 x_parent, iC 8192 x_byRule, iC 8192 x_stepsOf, iC 8192 x_alike, c16, c17, c18])) ∧ (¬ s0 = 0 → post (some (aI 0)) [oC 5 [aI x_thrown, aI x_nodes, aI x_room, aI x_states, aI x_kinds, aI x_rules, aR 1, aR 2, aR 3, aR 4, aR 5, aR 6, aR 7, aR 8, aI x_numberings, aI x_wholes, aI x_gone, aI x_steps, aI x_old, aI x_stuck, aI x_answer, aI x_badWhole, aR 9, aR 10, aR 11, aR 12, aR 13, aR 14, aR 15, aR 16, aR 17, aR 18, aI x_same, aI x_at], c1, c2, c3, c4, c5, c6, c7, c8, iC 98304 x_rows, c10, iC 8192 x_level, iC 8192 x_parent, iC 8192 x_byRule, iC 8192 x_stepsOf, iC 8192 x_alike, c16, c17, c18])) :
    AW X 30 [some (aR 0), some (aI l1), some (aI l2)] [aI s0] [oC 5 [aI x_thrown, aI x_nodes, aI x_room, aI x_states, aI x_kinds, aI x_rules, aR 1, aR 2, aR 3, aR 4, aR 5, aR 6, aR 7, aR 8, aI x_numberings, aI x_wholes, aI x_gone, aI x_steps, aI x_old, aI x_stuck, aI x_answer, aI x_badWhole, aR 9, aR 10, aR 11, aR 12, aR 13, aR 14, aR 15, aR 16, aR 17, aR 18, aI x_same, aI x_at], c1, c2, c3, c4, c5, c6, c7, c8, iC 98304 x_rows, c10, iC 8192 x_level, iC 8192 x_parent, iC 8192 x_byRule, iC 8192 x_stepsOf, iC 8192 x_alike, c16, c17, c18] bc bs := by
  refine aw_if_eq K d_RM_whole_30 (t := 35) (by decide) rfl (fun q => ?_) (fun q => ?_)
  · replace h := h.1 q
    refine aw_iload_n K d_RM_whole_35 rfl rfl ?_
    refine aw_tsw K d_RM_whole_36 (fun j hj e => ?_) (fun e => ⟨112, by decide, ?_⟩)
    · rcases (show j = 0 ∨ j = 1 ∨ j = 2 ∨ j = 3 ∨ j = 4 by omega) with rfl | rfl | rfl | rfl | rfl
      · have q : l2 = 0 := Int32.toInt_inj.mp (by rw [e]; rfl)
        refine ⟨_, 72, rfl, by decide, ?_⟩
        replace h := h.1 q
        refine aw_aload_n K d_RM_whole_72 rfl rfl ?_
        refine aw_getf K fd_RM_40 d_RM_whole_73 rfl rfl rfl ?_
        refine aw_bipush K d_RM_whole_76 rfl (v := 12) (by decide) ?_
        refine aw_iload_n K d_RM_whole_78 rfl rfl ?_
        refine aw_imul K d_RM_whole_79 rfl ?_
        refine aw_iconst K d_RM_whole_80 rfl (v := 4) (by decide) ?_
        refine aw_iadd K d_RM_whole_81 rfl ?_
        refine aw_iald K d_RM_whole_82 rfl rfl h.1 ?_
        replace h := h.2
        exact aw_iret K hr d_RM_whole_83 h
      · have q : l2 = 1 := Int32.toInt_inj.mp (by rw [e]; rfl)
        refine ⟨_, 84, rfl, by decide, ?_⟩
        replace h := h.2.1 q
        refine aw_aload_n K d_RM_whole_84 rfl rfl ?_
        refine aw_getf K fd_RM_46 d_RM_whole_85 rfl rfl rfl ?_
        refine aw_iload_n K d_RM_whole_88 rfl rfl ?_
        refine aw_iald K d_RM_whole_89 rfl rfl h.1 ?_
        replace h := h.2
        exact aw_iret K hr d_RM_whole_90 h
      · have q : l2 = 2 := Int32.toInt_inj.mp (by rw [e]; rfl)
        refine ⟨_, 91, rfl, by decide, ?_⟩
        replace h := h.2.2.1 q
        refine aw_aload_n K d_RM_whole_91 rfl rfl ?_
        refine aw_getf K fd_RM_49 d_RM_whole_92 rfl rfl rfl ?_
        refine aw_iload_n K d_RM_whole_95 rfl rfl ?_
        refine aw_iald K d_RM_whole_96 rfl rfl h.1 ?_
        replace h := h.2
        exact aw_iret K hr d_RM_whole_97 h
      · have q : l2 = 3 := Int32.toInt_inj.mp (by rw [e]; rfl)
        refine ⟨_, 98, rfl, by decide, ?_⟩
        replace h := h.2.2.2.1 q
        refine aw_aload_n K d_RM_whole_98 rfl rfl ?_
        refine aw_getf K fd_RM_52 d_RM_whole_99 rfl rfl rfl ?_
        refine aw_iload_n K d_RM_whole_102 rfl rfl ?_
        refine aw_iald K d_RM_whole_103 rfl rfl h.1 ?_
        replace h := h.2
        exact aw_iret K hr d_RM_whole_104 h
      · have q : l2 = 4 := Int32.toInt_inj.mp (by rw [e]; rfl)
        refine ⟨_, 105, rfl, by decide, ?_⟩
        replace h := h.2.2.2.2.1 q
        refine aw_aload_n K d_RM_whole_105 rfl rfl ?_
        refine aw_getf K fd_RM_55 d_RM_whole_106 rfl rfl rfl ?_
        refine aw_iload_n K d_RM_whole_109 rfl rfl ?_
        refine aw_iald K d_RM_whole_110 rfl rfl h.1 ?_
        replace h := h.2
        exact aw_iret K hr d_RM_whole_111 h
    · replace h := h.2.2.2.2.2 e
      refine aw_aload_n K d_RM_whole_112 rfl rfl ?_
      refine aw_getf K fd_RM_58 d_RM_whole_113 rfl rfl rfl ?_
      refine aw_iload_n K d_RM_whole_116 rfl rfl ?_
      refine aw_iald K d_RM_whole_117 rfl rfl h.1 ?_
      replace h := h.2
      exact aw_iret K hr d_RM_whole_118 h
  · replace h := h.2 q
    refine aw_iconst K d_RM_whole_33 rfl (v := 0) (by decide) ?_
    exact aw_iret K hr d_RM_whole_34 h
set_option maxRecDepth 20000 in
theorem x_RM_way_0 {X : am_X} {dd bc bs : Nat} (K : am_ok X b_RM_way R_RM 1 dd) {post : Option am_V → List am_C → Prop} (hr : am_rt X (some .int) post) {x_thrown x_nodes x_room x_states x_kinds x_rules x_numberings x_wholes x_gone x_steps x_old x_stuck x_answer x_badWhole x_same x_at : Int32} {x_level : Nat → Int32} {c1 c2 c3 c4 c5 c6 c7 c8 c9 c10 c12 c13 c14 c15 c16 c17 c18 : am_C}
    (h : (¬ x_answer = ((-2)) → post (some (aI ((-1)))) [oC 5 [aI 0, aI x_nodes, aI x_room, aI x_states, aI x_kinds, aI x_rules, aR 1, aR 2, aR 3, aR 4, aR 5, aR 6, aR 7, aR 8, aI x_numberings, aI x_wholes, aI x_gone, aI x_steps, aI x_old, aI x_stuck, aI x_answer, aI x_badWhole, aR 9, aR 10, aR 11, aR 12, aR 13, aR 14, aR 15, aR 16, aR 17, aR 18, aI x_same, aI x_at], c1, c2, c3, c4, c5, c6, c7, c8, c9, c10, iC 8192 x_level, c12, c13, c14, c15, c16, c17, c18]) ∧ (x_answer = ((-2)) → vp_in x_badWhole 8192 ∧ post (some (aI (x_level x_badWhole.toNatClampNeg))) [oC 5 [aI 0, aI x_nodes, aI x_room, aI x_states, aI x_kinds, aI x_rules, aR 1, aR 2, aR 3, aR 4, aR 5, aR 6, aR 7, aR 8, aI x_numberings, aI x_wholes, aI x_gone, aI x_steps, aI x_old, aI x_stuck, aI x_answer, aI x_badWhole, aR 9, aR 10, aR 11, aR 12, aR 13, aR 14, aR 15, aR 16, aR 17, aR 18, aI x_same, aI x_at], c1, c2, c3, c4, c5, c6, c7, c8, c9, c10, iC 8192 x_level, c12, c13, c14, c15, c16, c17, c18])) :
    AW X 0 [some (aR 0)] [] [oC 5 [aI x_thrown, aI x_nodes, aI x_room, aI x_states, aI x_kinds, aI x_rules, aR 1, aR 2, aR 3, aR 4, aR 5, aR 6, aR 7, aR 8, aI x_numberings, aI x_wholes, aI x_gone, aI x_steps, aI x_old, aI x_stuck, aI x_answer, aI x_badWhole, aR 9, aR 10, aR 11, aR 12, aR 13, aR 14, aR 15, aR 16, aR 17, aR 18, aI x_same, aI x_at], c1, c2, c3, c4, c5, c6, c7, c8, c9, c10, iC 8192 x_level, c12, c13, c14, c15, c16, c17, c18] bc bs := by
  refine aw_aload_n K d_RM_way_0 rfl rfl ?_
  refine aw_iconst K d_RM_way_1 rfl (v := 0) (by decide) ?_
  refine aw_putf K fp_RM_79 d_RM_way_2 rfl rfl (Nat.le_of_ble_eq_true rfl) (am_fit_i _) (w' := [oC 5 [aI 0, aI x_nodes, aI x_room, aI x_states, aI x_kinds, aI x_rules, aR 1, aR 2, aR 3, aR 4, aR 5, aR 6, aR 7, aR 8, aI x_numberings, aI x_wholes, aI x_gone, aI x_steps, aI x_old, aI x_stuck, aI x_answer, aI x_badWhole, aR 9, aR 10, aR 11, aR 12, aR 13, aR 14, aR 15, aR 16, aR 17, aR 18, aI x_same, aI x_at], c1, c2, c3, c4, c5, c6, c7, c8, c9, c10, iC 8192 x_level, c12, c13, c14, c15, c16, c17, c18]) rfl ?_
  refine aw_aload_n K d_RM_way_5 rfl rfl ?_
  refine aw_getf K fd_RM_97 d_RM_way_6 rfl rfl rfl ?_
  refine aw_bipush K d_RM_way_9 rfl (v := (-2)) (by decide) ?_
  refine aw_icmp_ne K d_RM_way_11 (t := 26) (by decide) rfl (fun q => ?_) (fun q => ?_)
  · replace h := h.1 q
    refine aw_iconst K d_RM_way_26 rfl (v := (-1)) (by decide) ?_
    exact aw_iret K hr d_RM_way_27 h
  · replace h := h.2 q
    refine aw_aload_n K d_RM_way_14 rfl rfl ?_
    refine aw_getf K fd_RM_46 d_RM_way_15 rfl rfl rfl ?_
    refine aw_aload_n K d_RM_way_18 rfl rfl ?_
    refine aw_getf K fd_RM_100 d_RM_way_19 rfl rfl rfl ?_
    refine aw_iald K d_RM_way_22 rfl rfl h.1 ?_
    replace h := h.2
    refine aw_goto K d_RM_way_23 (n := 27) (by decide) ?_
    exact aw_iret K hr d_RM_way_27 h
set_option maxRecDepth 20000 in
theorem x_RM_wayAt_0 {X : am_X} {dd bc bs : Nat} (K : am_ok X b_RM_wayAt R_RM 3 dd) {post : Option am_V → List am_C → Prop} (hr : am_rt X (some .int) post) {l1 x_thrown x_nodes x_room x_states x_kinds x_rules x_numberings x_wholes x_gone x_steps x_old x_stuck x_answer x_badWhole x_same x_at : Int32} {x_level x_parent : Nat → Int32} {c1 c2 c3 c4 c5 c6 c7 c8 c9 c10 c13 c14 c15 c16 c17 c18 : am_C}
    (h : (¬ x_answer = ((-2)) → AW X 41 [some (aR 0), some (aI l1), none] [aR 0] [oC 5 [aI x_thrown, aI x_nodes, aI x_room, aI x_states, aI x_kinds, aI x_rules, aR 1, aR 2, aR 3, aR 4, aR 5, aR 6, aR 7, aR 8, aI x_numberings, aI x_wholes, aI x_gone, aI x_steps, aI x_old, aI x_stuck, aI x_answer, aI x_badWhole, aR 9, aR 10, aR 11, aR 12, aR 13, aR 14, aR 15, aR 16, aR 17, aR 18, aI x_same, aI x_at], c1, c2, c3, c4, c5, c6, c7, c8, c9, c10, iC 8192 x_level, iC 8192 x_parent, c13, c14, c15, c16, c17, c18] bc bs) ∧ (x_answer = ((-2)) → (¬ x_answer = ((-2)) → AW X 35 [some (aR 0), some (aI l1), none] [aI 0, aI l1, aR 0] [oC 5 [aI x_thrown, aI x_nodes, aI x_room, aI x_states, aI x_kinds, aI x_rules, aR 1, aR 2, aR 3, aR 4, aR 5, aR 6, aR 7, aR 8, aI x_numberings, aI x_wholes, aI x_gone, aI x_steps, aI x_old, aI x_stuck, aI x_answer, aI x_badWhole, aR 9, aR 10, aR 11, aR 12, aR 13, aR 14, aR 15, aR 16, aR 17, aR 18, aI x_same, aI x_at], c1, c2, c3, c4, c5, c6, c7, c8, c9, c10, iC 8192 x_level, iC 8192 x_parent, c13, c14, c15, c16, c17, c18] bc bs) ∧ (x_answer = ((-2)) → vp_in x_badWhole 8192 ∧ AW X 35 [some (aR 0), some (aI l1), none] [aI ((x_level x_badWhole.toNatClampNeg) + (1 : Int32)), aI l1, aR 0] [oC 5 [aI x_thrown, aI x_nodes, aI x_room, aI x_states, aI x_kinds, aI x_rules, aR 1, aR 2, aR 3, aR 4, aR 5, aR 6, aR 7, aR 8, aI x_numberings, aI x_wholes, aI x_gone, aI x_steps, aI x_old, aI x_stuck, aI x_answer, aI x_badWhole, aR 9, aR 10, aR 11, aR 12, aR 13, aR 14, aR 15, aR 16, aR 17, aR 18, aI x_same, aI x_at], c1, c2, c3, c4, c5, c6, c7, c8, c9, c10, iC 8192 x_level, iC 8192 x_parent, c13, c14, c15, c16, c17, c18] bc bs))) :
    AW X 0 [some (aR 0), some (aI l1), none] [] [oC 5 [aI x_thrown, aI x_nodes, aI x_room, aI x_states, aI x_kinds, aI x_rules, aR 1, aR 2, aR 3, aR 4, aR 5, aR 6, aR 7, aR 8, aI x_numberings, aI x_wholes, aI x_gone, aI x_steps, aI x_old, aI x_stuck, aI x_answer, aI x_badWhole, aR 9, aR 10, aR 11, aR 12, aR 13, aR 14, aR 15, aR 16, aR 17, aR 18, aI x_same, aI x_at], c1, c2, c3, c4, c5, c6, c7, c8, c9, c10, iC 8192 x_level, iC 8192 x_parent, c13, c14, c15, c16, c17, c18] bc bs := by
  refine aw_aload_n K d_RM_wayAt_0 rfl rfl ?_
  refine aw_aload_n K d_RM_wayAt_1 rfl rfl ?_
  refine aw_getf K fd_RM_97 d_RM_wayAt_2 rfl rfl rfl ?_
  refine aw_bipush K d_RM_wayAt_5 rfl (v := (-2)) (by decide) ?_
  refine aw_icmp_ne K d_RM_wayAt_7 (t := 41) (by decide) rfl (fun q => ?_) (fun q => ?_)
  · replace h := h.1 q
    exact h
  · replace h := h.2 q
    refine aw_iload_n K d_RM_wayAt_10 rfl rfl ?_
    refine aw_aload_n K d_RM_wayAt_11 rfl rfl ?_
    refine aw_getf K fd_RM_97 d_RM_wayAt_12 rfl rfl rfl ?_
    refine aw_bipush K d_RM_wayAt_15 rfl (v := (-2)) (by decide) ?_
    refine aw_icmp_ne K d_RM_wayAt_17 (t := 34) (by decide) rfl (fun q => ?_) (fun q => ?_)
    · replace h := h.1 q
      refine aw_iconst K d_RM_wayAt_34 rfl (v := 0) (by decide) ?_
      exact h
    · replace h := h.2 q
      refine aw_aload_n K d_RM_wayAt_20 rfl rfl ?_
      refine aw_getf K fd_RM_46 d_RM_wayAt_21 rfl rfl rfl ?_
      refine aw_aload_n K d_RM_wayAt_24 rfl rfl ?_
      refine aw_getf K fd_RM_100 d_RM_wayAt_25 rfl rfl rfl ?_
      refine aw_iald K d_RM_wayAt_28 rfl rfl h.1 ?_
      replace h := h.2
      refine aw_iconst K d_RM_wayAt_29 rfl (v := 1) (by decide) ?_
      refine aw_iadd K d_RM_wayAt_30 rfl ?_
      refine aw_goto K d_RM_wayAt_31 (n := 35) (by decide) ?_
      exact h
set_option maxRecDepth 20000 in
theorem x_RM_wayAt_35 {X : am_X} {dd bc bs : Nat} (K : am_ok X b_RM_wayAt R_RM 3 dd) {post : Option am_V → List am_C → Prop} (hr : am_rt X (some .int) post) {sp_RM_isOf : am_S} {dd_RM_isOf : Nat} (c_RM_isOf : Con y_RM_isOf b_RM_isOf 2 (some .boolean) dd_RM_isOf 0 0 false sp_RM_isOf) (hdd_RM_isOf : dd_RM_isOf + 1 ≤ dd) {l1 s0 s1 x_thrown x_nodes x_room x_states x_kinds x_rules x_numberings x_wholes x_gone x_steps x_old x_stuck x_answer x_badWhole x_same x_at : Int32} {x_level x_parent : Nat → Int32} {c1 c2 c3 c4 c5 c6 c7 c8 c9 c10 c13 c14 c15 c16 c17 c18 : am_C}
    (h : sp_RM_isOf [aI s1, aI s0] [oC 5 [aI x_thrown, aI x_nodes, aI x_room, aI x_states, aI x_kinds, aI x_rules, aR 1, aR 2, aR 3, aR 4, aR 5, aR 6, aR 7, aR 8, aI x_numberings, aI x_wholes, aI x_gone, aI x_steps, aI x_old, aI x_stuck, aI x_answer, aI x_badWhole, aR 9, aR 10, aR 11, aR 12, aR 13, aR 14, aR 15, aR 16, aR 17, aR 18, aI x_same, aI x_at], c1, c2, c3, c4, c5, c6, c7, c8, c9, c10, iC 8192 x_level, iC 8192 x_parent, c13, c14, c15, c16, c17, c18] (fun rv w' => AW X 38 [some (aR 0), some (aI l1), none] (rv.toList ++ [aR 0]) w' bc bs)) :
    AW X 35 [some (aR 0), some (aI l1), none] [aI s0, aI s1, aR 0] [oC 5 [aI x_thrown, aI x_nodes, aI x_room, aI x_states, aI x_kinds, aI x_rules, aR 1, aR 2, aR 3, aR 4, aR 5, aR 6, aR 7, aR 8, aI x_numberings, aI x_wholes, aI x_gone, aI x_steps, aI x_old, aI x_stuck, aI x_answer, aI x_badWhole, aR 9, aR 10, aR 11, aR 12, aR 13, aR 14, aR 15, aR 16, aR 17, aR 18, aI x_same, aI x_at], c1, c2, c3, c4, c5, c6, c7, c8, c9, c10, iC 8192 x_level, iC 8192 x_parent, c13, c14, c15, c16, c17, c18] bc bs := by
  exact aw_callS K c_RM_isOf cb_RM_113 ct_RM_isOf hdd_RM_isOf d_RM_wayAt_35 rfl (av := [aI s1, aI s0]) rfl (Nat.le_of_ble_eq_true rfl) h (fun rv w' hF => hF)
set_option maxRecDepth 20000 in
theorem x_RM_wayAt_38 {X : am_X} {dd bc bs : Nat} (K : am_ok X b_RM_wayAt R_RM 3 dd) {post : Option am_V → List am_C → Prop} (hr : am_rt X (some .int) post) {l1 s0 x_thrown x_nodes x_room x_states x_kinds x_rules x_numberings x_wholes x_gone x_steps x_old x_stuck x_answer x_badWhole x_same x_at : Int32} {x_level x_parent : Nat → Int32} {c1 c2 c3 c4 c5 c6 c7 c8 c9 c10 c13 c14 c15 c16 c17 c18 : am_C}
    (h : (¬ s0 = 0 → AW X 46 [some (aR 0), some (aI l1), none] [aI 0, aR 0] [oC 5 [aI x_thrown, aI x_nodes, aI x_room, aI x_states, aI x_kinds, aI x_rules, aR 1, aR 2, aR 3, aR 4, aR 5, aR 6, aR 7, aR 8, aI x_numberings, aI x_wholes, aI x_gone, aI x_steps, aI x_old, aI x_stuck, aI x_answer, aI x_badWhole, aR 9, aR 10, aR 11, aR 12, aR 13, aR 14, aR 15, aR 16, aR 17, aR 18, aI x_same, aI x_at], c1, c2, c3, c4, c5, c6, c7, c8, c9, c10, iC 8192 x_level, iC 8192 x_parent, c13, c14, c15, c16, c17, c18] bc bs) ∧ (s0 = 0 → AW X 41 [some (aR 0), some (aI l1), none] [aR 0] [oC 5 [aI x_thrown, aI x_nodes, aI x_room, aI x_states, aI x_kinds, aI x_rules, aR 1, aR 2, aR 3, aR 4, aR 5, aR 6, aR 7, aR 8, aI x_numberings, aI x_wholes, aI x_gone, aI x_steps, aI x_old, aI x_stuck, aI x_answer, aI x_badWhole, aR 9, aR 10, aR 11, aR 12, aR 13, aR 14, aR 15, aR 16, aR 17, aR 18, aI x_same, aI x_at], c1, c2, c3, c4, c5, c6, c7, c8, c9, c10, iC 8192 x_level, iC 8192 x_parent, c13, c14, c15, c16, c17, c18] bc bs)) :
    AW X 38 [some (aR 0), some (aI l1), none] [aI s0, aR 0] [oC 5 [aI x_thrown, aI x_nodes, aI x_room, aI x_states, aI x_kinds, aI x_rules, aR 1, aR 2, aR 3, aR 4, aR 5, aR 6, aR 7, aR 8, aI x_numberings, aI x_wholes, aI x_gone, aI x_steps, aI x_old, aI x_stuck, aI x_answer, aI x_badWhole, aR 9, aR 10, aR 11, aR 12, aR 13, aR 14, aR 15, aR 16, aR 17, aR 18, aI x_same, aI x_at], c1, c2, c3, c4, c5, c6, c7, c8, c9, c10, iC 8192 x_level, iC 8192 x_parent, c13, c14, c15, c16, c17, c18] bc bs := by
  refine aw_if_ne K d_RM_wayAt_38 (t := 45) (by decide) rfl (fun q => ?_) (fun q => ?_)
  · replace h := h.1 q
    refine aw_iconst K d_RM_wayAt_45 rfl (v := 0) (by decide) ?_
    exact h
  · replace h := h.2 q
    exact h
set_option maxRecDepth 20000 in
theorem x_RM_wayAt_41 {X : am_X} {dd bc bs : Nat} (K : am_ok X b_RM_wayAt R_RM 3 dd) {post : Option am_V → List am_C → Prop} (hr : am_rt X (some .int) post) {l1 x_thrown x_nodes x_room x_states x_kinds x_rules x_numberings x_wholes x_gone x_steps x_old x_stuck x_answer x_badWhole x_same x_at : Int32} {x_level x_parent : Nat → Int32} {c1 c2 c3 c4 c5 c6 c7 c8 c9 c10 c13 c14 c15 c16 c17 c18 : am_C}
    (h : AW X 46 [some (aR 0), some (aI l1), none] [aI 1, aR 0] [oC 5 [aI x_thrown, aI x_nodes, aI x_room, aI x_states, aI x_kinds, aI x_rules, aR 1, aR 2, aR 3, aR 4, aR 5, aR 6, aR 7, aR 8, aI x_numberings, aI x_wholes, aI x_gone, aI x_steps, aI x_old, aI x_stuck, aI x_answer, aI x_badWhole, aR 9, aR 10, aR 11, aR 12, aR 13, aR 14, aR 15, aR 16, aR 17, aR 18, aI x_same, aI x_at], c1, c2, c3, c4, c5, c6, c7, c8, c9, c10, iC 8192 x_level, iC 8192 x_parent, c13, c14, c15, c16, c17, c18] bc bs) :
    AW X 41 [some (aR 0), some (aI l1), none] [aR 0] [oC 5 [aI x_thrown, aI x_nodes, aI x_room, aI x_states, aI x_kinds, aI x_rules, aR 1, aR 2, aR 3, aR 4, aR 5, aR 6, aR 7, aR 8, aI x_numberings, aI x_wholes, aI x_gone, aI x_steps, aI x_old, aI x_stuck, aI x_answer, aI x_badWhole, aR 9, aR 10, aR 11, aR 12, aR 13, aR 14, aR 15, aR 16, aR 17, aR 18, aI x_same, aI x_at], c1, c2, c3, c4, c5, c6, c7, c8, c9, c10, iC 8192 x_level, iC 8192 x_parent, c13, c14, c15, c16, c17, c18] bc bs := by
  refine aw_iconst K d_RM_wayAt_41 rfl (v := 1) (by decide) ?_
  refine aw_goto K d_RM_wayAt_42 (n := 46) (by decide) ?_
  exact h
set_option maxRecDepth 20000 in
theorem x_RM_wayAt_46 {X : am_X} {dd bc bs : Nat} (K : am_ok X b_RM_wayAt R_RM 3 dd) {post : Option am_V → List am_C → Prop} (hr : am_rt X (some .int) post) {sp_RM_throwing : am_S} {dd_RM_throwing : Nat} (c_RM_throwing : Con y_RM_throwing b_RM_throwing 3 (some .boolean) dd_RM_throwing 0 0 false sp_RM_throwing) (hdd_RM_throwing : dd_RM_throwing + 1 ≤ dd) {l1 s0 x_thrown x_nodes x_room x_states x_kinds x_rules x_numberings x_wholes x_gone x_steps x_old x_stuck x_answer x_badWhole x_same x_at : Int32} {x_level x_parent : Nat → Int32} {c1 c2 c3 c4 c5 c6 c7 c8 c9 c10 c13 c14 c15 c16 c17 c18 : am_C}
    (h : sp_RM_throwing [aR 0, aI s0, aI 0] [oC 5 [aI x_thrown, aI x_nodes, aI x_room, aI x_states, aI x_kinds, aI x_rules, aR 1, aR 2, aR 3, aR 4, aR 5, aR 6, aR 7, aR 8, aI x_numberings, aI x_wholes, aI x_gone, aI x_steps, aI x_old, aI x_stuck, aI x_answer, aI x_badWhole, aR 9, aR 10, aR 11, aR 12, aR 13, aR 14, aR 15, aR 16, aR 17, aR 18, aI x_same, aI x_at], c1, c2, c3, c4, c5, c6, c7, c8, c9, c10, iC 8192 x_level, iC 8192 x_parent, c13, c14, c15, c16, c17, c18] (fun rv w' => AW X 50 [some (aR 0), some (aI l1), none] (rv.toList ++ []) w' bc bs)) :
    AW X 46 [some (aR 0), some (aI l1), none] [aI s0, aR 0] [oC 5 [aI x_thrown, aI x_nodes, aI x_room, aI x_states, aI x_kinds, aI x_rules, aR 1, aR 2, aR 3, aR 4, aR 5, aR 6, aR 7, aR 8, aI x_numberings, aI x_wholes, aI x_gone, aI x_steps, aI x_old, aI x_stuck, aI x_answer, aI x_badWhole, aR 9, aR 10, aR 11, aR 12, aR 13, aR 14, aR 15, aR 16, aR 17, aR 18, aI x_same, aI x_at], c1, c2, c3, c4, c5, c6, c7, c8, c9, c10, iC 8192 x_level, iC 8192 x_parent, c13, c14, c15, c16, c17, c18] bc bs := by
  refine aw_iconst K d_RM_wayAt_46 rfl (v := 0) (by decide) ?_
  exact aw_callV K c_RM_throwing cb_RM_103 ci_RM_throwing cs_RM_throwing hdd_RM_throwing (k := 0) rfl rfl d_RM_wayAt_47 rfl (av := [aI s0, aI 0]) rfl (Nat.le_of_ble_eq_true rfl) h (fun rv w' hF => hF)
set_option maxRecDepth 20000 in
theorem x_RM_wayAt_50 {X : am_X} {dd bc bs : Nat} (K : am_ok X b_RM_wayAt R_RM 3 dd) {post : Option am_V → List am_C → Prop} (hr : am_rt X (some .int) post) {l1 s0 x_thrown x_nodes x_room x_states x_kinds x_rules x_numberings x_wholes x_gone x_steps x_old x_stuck x_answer x_badWhole x_same x_at : Int32} {x_level x_parent : Nat → Int32} {c1 c2 c3 c4 c5 c6 c7 c8 c9 c10 c13 c14 c15 c16 c17 c18 : am_C}
    (h : (s0 = 0 → AW X 60 [some (aR 0), some (aI l1), some (aI x_badWhole)] [] [oC 5 [aI x_thrown, aI x_nodes, aI x_room, aI x_states, aI x_kinds, aI x_rules, aR 1, aR 2, aR 3, aR 4, aR 5, aR 6, aR 7, aR 8, aI x_numberings, aI x_wholes, aI x_gone, aI x_steps, aI x_old, aI x_stuck, aI x_answer, aI x_badWhole, aR 9, aR 10, aR 11, aR 12, aR 13, aR 14, aR 15, aR 16, aR 17, aR 18, aI x_same, aI x_at], c1, c2, c3, c4, c5, c6, c7, c8, c9, c10, iC 8192 x_level, iC 8192 x_parent, c13, c14, c15, c16, c17, c18] bc bs) ∧ (¬ s0 = 0 → post (some (aI 0)) [oC 5 [aI x_thrown, aI x_nodes, aI x_room, aI x_states, aI x_kinds, aI x_rules, aR 1, aR 2, aR 3, aR 4, aR 5, aR 6, aR 7, aR 8, aI x_numberings, aI x_wholes, aI x_gone, aI x_steps, aI x_old, aI x_stuck, aI x_answer, aI x_badWhole, aR 9, aR 10, aR 11, aR 12, aR 13, aR 14, aR 15, aR 16, aR 17, aR 18, aI x_same, aI x_at], c1, c2, c3, c4, c5, c6, c7, c8, c9, c10, iC 8192 x_level, iC 8192 x_parent, c13, c14, c15, c16, c17, c18])) :
    AW X 50 [some (aR 0), some (aI l1), none] [aI s0] [oC 5 [aI x_thrown, aI x_nodes, aI x_room, aI x_states, aI x_kinds, aI x_rules, aR 1, aR 2, aR 3, aR 4, aR 5, aR 6, aR 7, aR 8, aI x_numberings, aI x_wholes, aI x_gone, aI x_steps, aI x_old, aI x_stuck, aI x_answer, aI x_badWhole, aR 9, aR 10, aR 11, aR 12, aR 13, aR 14, aR 15, aR 16, aR 17, aR 18, aI x_same, aI x_at], c1, c2, c3, c4, c5, c6, c7, c8, c9, c10, iC 8192 x_level, iC 8192 x_parent, c13, c14, c15, c16, c17, c18] bc bs := by
  refine aw_if_eq K d_RM_wayAt_50 (t := 55) (by decide) rfl (fun q => ?_) (fun q => ?_)
  · replace h := h.1 q
    refine aw_aload_n K d_RM_wayAt_55 rfl rfl ?_
    refine aw_getf K fd_RM_100 d_RM_wayAt_56 rfl rfl rfl ?_
    refine aw_istore_n K d_RM_wayAt_59 rfl (by decide) (lv' := [some (aR 0), some (aI l1), some (aI x_badWhole)]) rfl ?_
    exact h
  · replace h := h.2 q
    refine aw_iconst K d_RM_wayAt_53 rfl (v := 0) (by decide) ?_
    exact aw_iret K hr d_RM_wayAt_54 h
set_option maxRecDepth 20000 in
theorem x_RM_wayAt_60 {X : am_X} {dd bc bs : Nat} (K : am_ok X b_RM_wayAt R_RM 3 dd) {post : Option am_V → List am_C → Prop} (hr : am_rt X (some .int) post) {l1 l2 x_thrown x_nodes x_room x_states x_kinds x_rules x_numberings x_wholes x_gone x_steps x_old x_stuck x_answer x_badWhole x_same x_at : Int32} {x_level x_parent : Nat → Int32} {c1 c2 c3 c4 c5 c6 c7 c8 c9 c10 c13 c14 c15 c16 c17 c18 : am_C}
    (h : vp_in l2 8192 ∧ ((x_level l2.toNatClampNeg) ≤ l1 → post (some (aI l2)) [oC 5 [aI x_thrown, aI x_nodes, aI x_room, aI x_states, aI x_kinds, aI x_rules, aR 1, aR 2, aR 3, aR 4, aR 5, aR 6, aR 7, aR 8, aI x_numberings, aI x_wholes, aI x_gone, aI x_steps, aI x_old, aI x_stuck, aI x_answer, aI x_badWhole, aR 9, aR 10, aR 11, aR 12, aR 13, aR 14, aR 15, aR 16, aR 17, aR 18, aI x_same, aI x_at], c1, c2, c3, c4, c5, c6, c7, c8, c9, c10, iC 8192 x_level, iC 8192 x_parent, c13, c14, c15, c16, c17, c18]) ∧ (¬ (x_level l2.toNatClampNeg) ≤ l1 → vp_in l2 8192 ∧ AW X 60 [some (aR 0), some (aI l1), some (aI (x_parent l2.toNatClampNeg))] [] [oC 5 [aI x_thrown, aI x_nodes, aI x_room, aI x_states, aI x_kinds, aI x_rules, aR 1, aR 2, aR 3, aR 4, aR 5, aR 6, aR 7, aR 8, aI x_numberings, aI x_wholes, aI x_gone, aI x_steps, aI x_old, aI x_stuck, aI x_answer, aI x_badWhole, aR 9, aR 10, aR 11, aR 12, aR 13, aR 14, aR 15, aR 16, aR 17, aR 18, aI x_same, aI x_at], c1, c2, c3, c4, c5, c6, c7, c8, c9, c10, iC 8192 x_level, iC 8192 x_parent, c13, c14, c15, c16, c17, c18] bc bs)) :
    AW X 60 [some (aR 0), some (aI l1), some (aI l2)] [] [oC 5 [aI x_thrown, aI x_nodes, aI x_room, aI x_states, aI x_kinds, aI x_rules, aR 1, aR 2, aR 3, aR 4, aR 5, aR 6, aR 7, aR 8, aI x_numberings, aI x_wholes, aI x_gone, aI x_steps, aI x_old, aI x_stuck, aI x_answer, aI x_badWhole, aR 9, aR 10, aR 11, aR 12, aR 13, aR 14, aR 15, aR 16, aR 17, aR 18, aI x_same, aI x_at], c1, c2, c3, c4, c5, c6, c7, c8, c9, c10, iC 8192 x_level, iC 8192 x_parent, c13, c14, c15, c16, c17, c18] bc bs := by
  refine aw_aload_n K d_RM_wayAt_60 rfl rfl ?_
  refine aw_getf K fd_RM_46 d_RM_wayAt_61 rfl rfl rfl ?_
  refine aw_iload_n K d_RM_wayAt_64 rfl rfl ?_
  refine aw_iald K d_RM_wayAt_65 rfl rfl h.1 ?_
  replace h := h.2
  refine aw_iload_n K d_RM_wayAt_66 rfl rfl ?_
  refine aw_icmp_le K d_RM_wayAt_67 (t := 80) (by decide) rfl (fun q => ?_) (fun q => ?_)
  · replace h := h.1 q
    refine aw_iload_n K d_RM_wayAt_80 rfl rfl ?_
    exact aw_iret K hr d_RM_wayAt_81 h
  · replace h := h.2 q
    refine aw_aload_n K d_RM_wayAt_70 rfl rfl ?_
    refine aw_getf K fd_RM_49 d_RM_wayAt_71 rfl rfl rfl ?_
    refine aw_iload_n K d_RM_wayAt_74 rfl rfl ?_
    refine aw_iald K d_RM_wayAt_75 rfl rfl h.1 ?_
    replace h := h.2
    refine aw_istore_n K d_RM_wayAt_76 rfl (by decide) (lv' := [some (aR 0), some (aI l1), some (aI (x_parent l2.toNatClampNeg))]) rfl ?_
    refine aw_goto K d_RM_wayAt_77 (n := 60) (by decide) ?_
    exact h
set_option maxRecDepth 20000 in
theorem x_RM_greatestLevel_0 {X : am_X} {dd bc bs : Nat} (K : am_ok X b_RM_greatestLevel R_RM 3 dd) {post : Option am_V → List am_C → Prop} (hr : am_rt X (some .int) post) {x_thrown x_nodes x_room x_states x_kinds x_rules x_numberings x_wholes x_gone x_steps x_old x_stuck x_answer x_badWhole x_same x_at : Int32} {x_level : Nat → Int32} {c1 c2 c3 c4 c5 c6 c7 c8 c9 c10 c12 c13 c14 c15 c16 c17 c18 : am_C}
    (h : AW X 4 [some (aR 0), some (aI ((-1))), some (aI 0)] [] [oC 5 [aI x_thrown, aI x_nodes, aI x_room, aI x_states, aI x_kinds, aI x_rules, aR 1, aR 2, aR 3, aR 4, aR 5, aR 6, aR 7, aR 8, aI x_numberings, aI x_wholes, aI x_gone, aI x_steps, aI x_old, aI x_stuck, aI x_answer, aI x_badWhole, aR 9, aR 10, aR 11, aR 12, aR 13, aR 14, aR 15, aR 16, aR 17, aR 18, aI x_same, aI x_at], c1, c2, c3, c4, c5, c6, c7, c8, c9, c10, iC 8192 x_level, c12, c13, c14, c15, c16, c17, c18] bc bs) :
    AW X 0 [some (aR 0), none, none] [] [oC 5 [aI x_thrown, aI x_nodes, aI x_room, aI x_states, aI x_kinds, aI x_rules, aR 1, aR 2, aR 3, aR 4, aR 5, aR 6, aR 7, aR 8, aI x_numberings, aI x_wholes, aI x_gone, aI x_steps, aI x_old, aI x_stuck, aI x_answer, aI x_badWhole, aR 9, aR 10, aR 11, aR 12, aR 13, aR 14, aR 15, aR 16, aR 17, aR 18, aI x_same, aI x_at], c1, c2, c3, c4, c5, c6, c7, c8, c9, c10, iC 8192 x_level, c12, c13, c14, c15, c16, c17, c18] bc bs := by
  refine aw_iconst K d_RM_greatestLevel_0 rfl (v := (-1)) (by decide) ?_
  refine aw_istore_n K d_RM_greatestLevel_1 rfl (by decide) (lv' := [some (aR 0), some (aI ((-1))), none]) rfl ?_
  refine aw_iconst K d_RM_greatestLevel_2 rfl (v := 0) (by decide) ?_
  refine aw_istore_n K d_RM_greatestLevel_3 rfl (by decide) (lv' := [some (aR 0), some (aI ((-1))), some (aI 0)]) rfl ?_
  exact h
set_option maxRecDepth 20000 in
theorem x_RM_greatestLevel_4 {X : am_X} {dd bc bs : Nat} (K : am_ok X b_RM_greatestLevel R_RM 3 dd) {post : Option am_V → List am_C → Prop} (hr : am_rt X (some .int) post) {l1 l2 x_thrown x_nodes x_room x_states x_kinds x_rules x_numberings x_wholes x_gone x_steps x_old x_stuck x_answer x_badWhole x_same x_at : Int32} {x_level : Nat → Int32} {c1 c2 c3 c4 c5 c6 c7 c8 c9 c10 c12 c13 c14 c15 c16 c17 c18 : am_C}
    (h : (x_wholes ≤ l2 → post (some (aI l1)) [oC 5 [aI x_thrown, aI x_nodes, aI x_room, aI x_states, aI x_kinds, aI x_rules, aR 1, aR 2, aR 3, aR 4, aR 5, aR 6, aR 7, aR 8, aI x_numberings, aI x_wholes, aI x_gone, aI x_steps, aI x_old, aI x_stuck, aI x_answer, aI x_badWhole, aR 9, aR 10, aR 11, aR 12, aR 13, aR 14, aR 15, aR 16, aR 17, aR 18, aI x_same, aI x_at], c1, c2, c3, c4, c5, c6, c7, c8, c9, c10, iC 8192 x_level, c12, c13, c14, c15, c16, c17, c18]) ∧ (¬ x_wholes ≤ l2 → vp_in l2 8192 ∧ ((x_level l2.toNatClampNeg) ≤ l1 → AW X 4 [some (aR 0), some (aI l1), some (aI (l2 + 1))] [] [oC 5 [aI x_thrown, aI x_nodes, aI x_room, aI x_states, aI x_kinds, aI x_rules, aR 1, aR 2, aR 3, aR 4, aR 5, aR 6, aR 7, aR 8, aI x_numberings, aI x_wholes, aI x_gone, aI x_steps, aI x_old, aI x_stuck, aI x_answer, aI x_badWhole, aR 9, aR 10, aR 11, aR 12, aR 13, aR 14, aR 15, aR 16, aR 17, aR 18, aI x_same, aI x_at], c1, c2, c3, c4, c5, c6, c7, c8, c9, c10, iC 8192 x_level, c12, c13, c14, c15, c16, c17, c18] bc bs) ∧ (¬ (x_level l2.toNatClampNeg) ≤ l1 → vp_in l2 8192 ∧ AW X 4 [some (aR 0), some (aI (x_level l2.toNatClampNeg)), some (aI (l2 + 1))] [] [oC 5 [aI x_thrown, aI x_nodes, aI x_room, aI x_states, aI x_kinds, aI x_rules, aR 1, aR 2, aR 3, aR 4, aR 5, aR 6, aR 7, aR 8, aI x_numberings, aI x_wholes, aI x_gone, aI x_steps, aI x_old, aI x_stuck, aI x_answer, aI x_badWhole, aR 9, aR 10, aR 11, aR 12, aR 13, aR 14, aR 15, aR 16, aR 17, aR 18, aI x_same, aI x_at], c1, c2, c3, c4, c5, c6, c7, c8, c9, c10, iC 8192 x_level, c12, c13, c14, c15, c16, c17, c18] bc bs))) :
    AW X 4 [some (aR 0), some (aI l1), some (aI l2)] [] [oC 5 [aI x_thrown, aI x_nodes, aI x_room, aI x_states, aI x_kinds, aI x_rules, aR 1, aR 2, aR 3, aR 4, aR 5, aR 6, aR 7, aR 8, aI x_numberings, aI x_wholes, aI x_gone, aI x_steps, aI x_old, aI x_stuck, aI x_answer, aI x_badWhole, aR 9, aR 10, aR 11, aR 12, aR 13, aR 14, aR 15, aR 16, aR 17, aR 18, aI x_same, aI x_at], c1, c2, c3, c4, c5, c6, c7, c8, c9, c10, iC 8192 x_level, c12, c13, c14, c15, c16, c17, c18] bc bs := by
  refine aw_iload_n K d_RM_greatestLevel_4 rfl rfl ?_
  refine aw_aload_n K d_RM_greatestLevel_5 rfl rfl ?_
  refine aw_getf K fd_RM_82 d_RM_greatestLevel_6 rfl rfl rfl ?_
  refine aw_icmp_ge K d_RM_greatestLevel_9 (t := 39) (by decide) rfl (fun q => ?_) (fun q => ?_)
  · replace h := h.1 q
    refine aw_iload_n K d_RM_greatestLevel_39 rfl rfl ?_
    exact aw_iret K hr d_RM_greatestLevel_40 h
  · replace h := h.2 q
    refine aw_aload_n K d_RM_greatestLevel_12 rfl rfl ?_
    refine aw_getf K fd_RM_46 d_RM_greatestLevel_13 rfl rfl rfl ?_
    refine aw_iload_n K d_RM_greatestLevel_16 rfl rfl ?_
    refine aw_iald K d_RM_greatestLevel_17 rfl rfl h.1 ?_
    replace h := h.2
    refine aw_iload_n K d_RM_greatestLevel_18 rfl rfl ?_
    refine aw_icmp_le K d_RM_greatestLevel_19 (t := 31) (by decide) rfl (fun q => ?_) (fun q => ?_)
    · replace h := h.1 q
      refine aw_iload_n K d_RM_greatestLevel_31 rfl rfl ?_
      refine aw_istore_n K d_RM_greatestLevel_32 rfl (by decide) (lv' := [some (aR 0), some (aI l1), some (aI l2)]) rfl ?_
      refine aw_iinc K d_RM_greatestLevel_33 rfl rfl (v := l2 + 1) rfl (by decide) (lv' := [some (aR 0), some (aI l1), some (aI (l2 + 1))]) rfl ?_
      refine aw_goto K d_RM_greatestLevel_36 (n := 4) (by decide) ?_
      exact h
    · replace h := h.2 q
      refine aw_aload_n K d_RM_greatestLevel_22 rfl rfl ?_
      refine aw_getf K fd_RM_46 d_RM_greatestLevel_23 rfl rfl rfl ?_
      refine aw_iload_n K d_RM_greatestLevel_26 rfl rfl ?_
      refine aw_iald K d_RM_greatestLevel_27 rfl rfl h.1 ?_
      replace h := h.2
      refine aw_goto K d_RM_greatestLevel_28 (n := 32) (by decide) ?_
      refine aw_istore_n K d_RM_greatestLevel_32 rfl (by decide) (lv' := [some (aR 0), some (aI (x_level l2.toNatClampNeg)), some (aI l2)]) rfl ?_
      refine aw_iinc K d_RM_greatestLevel_33 rfl rfl (v := l2 + 1) rfl (by decide) (lv' := [some (aR 0), some (aI (x_level l2.toNatClampNeg)), some (aI (l2 + 1))]) rfl ?_
      refine aw_goto K d_RM_greatestLevel_36 (n := 4) (by decide) ?_
      exact h
set_option maxRecDepth 20000 in
theorem x_RM_sums_0 {X : am_X} {dd bc bs : Nat} (K : am_ok X b_RM_sums R_RM 3 dd) {post : Option am_V → List am_C → Prop} (hr : am_rt X (some .int) post) {x_thrown x_nodes x_room x_states x_kinds x_rules x_numberings x_wholes x_gone x_steps x_old x_stuck x_answer x_badWhole x_same x_at : Int32} {x_alike : Nat → Int32} {c1 c2 c3 c4 c5 c6 c7 c8 c9 c10 c11 c12 c13 c14 c16 c17 c18 : am_C}
    (h : AW X 4 [some (aR 0), some (aI 0), some (aI 0)] [] [oC 5 [aI x_thrown, aI x_nodes, aI x_room, aI x_states, aI x_kinds, aI x_rules, aR 1, aR 2, aR 3, aR 4, aR 5, aR 6, aR 7, aR 8, aI x_numberings, aI x_wholes, aI x_gone, aI x_steps, aI x_old, aI x_stuck, aI x_answer, aI x_badWhole, aR 9, aR 10, aR 11, aR 12, aR 13, aR 14, aR 15, aR 16, aR 17, aR 18, aI x_same, aI x_at], c1, c2, c3, c4, c5, c6, c7, c8, c9, c10, c11, c12, c13, c14, iC 8192 x_alike, c16, c17, c18] bc bs) :
    AW X 0 [some (aR 0), none, none] [] [oC 5 [aI x_thrown, aI x_nodes, aI x_room, aI x_states, aI x_kinds, aI x_rules, aR 1, aR 2, aR 3, aR 4, aR 5, aR 6, aR 7, aR 8, aI x_numberings, aI x_wholes, aI x_gone, aI x_steps, aI x_old, aI x_stuck, aI x_answer, aI x_badWhole, aR 9, aR 10, aR 11, aR 12, aR 13, aR 14, aR 15, aR 16, aR 17, aR 18, aI x_same, aI x_at], c1, c2, c3, c4, c5, c6, c7, c8, c9, c10, c11, c12, c13, c14, iC 8192 x_alike, c16, c17, c18] bc bs := by
  refine aw_iconst K d_RM_sums_0 rfl (v := 0) (by decide) ?_
  refine aw_istore_n K d_RM_sums_1 rfl (by decide) (lv' := [some (aR 0), some (aI 0), none]) rfl ?_
  refine aw_iconst K d_RM_sums_2 rfl (v := 0) (by decide) ?_
  refine aw_istore_n K d_RM_sums_3 rfl (by decide) (lv' := [some (aR 0), some (aI 0), some (aI 0)]) rfl ?_
  exact h
set_option maxRecDepth 20000 in
theorem x_RM_sums_4 {X : am_X} {dd bc bs : Nat} (K : am_ok X b_RM_sums R_RM 3 dd) {post : Option am_V → List am_C → Prop} (hr : am_rt X (some .int) post) {l1 l2 x_thrown x_nodes x_room x_states x_kinds x_rules x_numberings x_wholes x_gone x_steps x_old x_stuck x_answer x_badWhole x_same x_at : Int32} {x_alike : Nat → Int32} {c1 c2 c3 c4 c5 c6 c7 c8 c9 c10 c11 c12 c13 c14 c16 c17 c18 : am_C}
    (h : (x_wholes ≤ l2 → post (some (aI l1)) [oC 5 [aI x_thrown, aI x_nodes, aI x_room, aI x_states, aI x_kinds, aI x_rules, aR 1, aR 2, aR 3, aR 4, aR 5, aR 6, aR 7, aR 8, aI x_numberings, aI x_wholes, aI x_gone, aI x_steps, aI x_old, aI x_stuck, aI x_answer, aI x_badWhole, aR 9, aR 10, aR 11, aR 12, aR 13, aR 14, aR 15, aR 16, aR 17, aR 18, aI x_same, aI x_at], c1, c2, c3, c4, c5, c6, c7, c8, c9, c10, c11, c12, c13, c14, iC 8192 x_alike, c16, c17, c18]) ∧ (¬ x_wholes ≤ l2 → vp_in l2 8192 ∧ ¬ x_alike l2.toNatClampNeg = 0 ∧ AW X 4 [some (aR 0), some (aI (l1 + (x_numberings / (x_alike l2.toNatClampNeg)))), some (aI (l2 + 1))] [] [oC 5 [aI x_thrown, aI x_nodes, aI x_room, aI x_states, aI x_kinds, aI x_rules, aR 1, aR 2, aR 3, aR 4, aR 5, aR 6, aR 7, aR 8, aI x_numberings, aI x_wholes, aI x_gone, aI x_steps, aI x_old, aI x_stuck, aI x_answer, aI x_badWhole, aR 9, aR 10, aR 11, aR 12, aR 13, aR 14, aR 15, aR 16, aR 17, aR 18, aI x_same, aI x_at], c1, c2, c3, c4, c5, c6, c7, c8, c9, c10, c11, c12, c13, c14, iC 8192 x_alike, c16, c17, c18] bc bs)) :
    AW X 4 [some (aR 0), some (aI l1), some (aI l2)] [] [oC 5 [aI x_thrown, aI x_nodes, aI x_room, aI x_states, aI x_kinds, aI x_rules, aR 1, aR 2, aR 3, aR 4, aR 5, aR 6, aR 7, aR 8, aI x_numberings, aI x_wholes, aI x_gone, aI x_steps, aI x_old, aI x_stuck, aI x_answer, aI x_badWhole, aR 9, aR 10, aR 11, aR 12, aR 13, aR 14, aR 15, aR 16, aR 17, aR 18, aI x_same, aI x_at], c1, c2, c3, c4, c5, c6, c7, c8, c9, c10, c11, c12, c13, c14, iC 8192 x_alike, c16, c17, c18] bc bs := by
  refine aw_iload_n K d_RM_sums_4 rfl rfl ?_
  refine aw_aload_n K d_RM_sums_5 rfl rfl ?_
  refine aw_getf K fd_RM_82 d_RM_sums_6 rfl rfl rfl ?_
  refine aw_icmp_ge K d_RM_sums_9 (t := 32) (by decide) rfl (fun q => ?_) (fun q => ?_)
  · replace h := h.1 q
    refine aw_iload_n K d_RM_sums_32 rfl rfl ?_
    exact aw_iret K hr d_RM_sums_33 h
  · replace h := h.2 q
    refine aw_iload_n K d_RM_sums_12 rfl rfl ?_
    refine aw_aload_n K d_RM_sums_13 rfl rfl ?_
    refine aw_getf K fd_RM_76 d_RM_sums_14 rfl rfl rfl ?_
    refine aw_aload_n K d_RM_sums_17 rfl rfl ?_
    refine aw_getf K fd_RM_58 d_RM_sums_18 rfl rfl rfl ?_
    refine aw_iload_n K d_RM_sums_21 rfl rfl ?_
    refine aw_iald K d_RM_sums_22 rfl rfl h.1 ?_
    replace h := h.2
    refine aw_idiv K d_RM_sums_23 rfl h.1 ?_
    replace h := h.2
    refine aw_iadd K d_RM_sums_24 rfl ?_
    refine aw_istore_n K d_RM_sums_25 rfl (by decide) (lv' := [some (aR 0), some (aI (l1 + (x_numberings / (x_alike l2.toNatClampNeg)))), some (aI l2)]) rfl ?_
    refine aw_iinc K d_RM_sums_26 rfl rfl (v := l2 + 1) rfl (by decide) (lv' := [some (aR 0), some (aI (l1 + (x_numberings / (x_alike l2.toNatClampNeg)))), some (aI (l2 + 1))]) rfl ?_
    refine aw_goto K d_RM_sums_29 (n := 4) (by decide) ?_
    exact h
set_option maxRecDepth 20000 in
theorem x_RM_count_0 {X : am_X} {dd bc bs : Nat} (K : am_ok X b_RM_count R_RM 2 dd) {post : Option am_V → List am_C → Prop} (hr : am_rt X (some .int) post) {sp_RM_greatestLevel : am_S} {dd_RM_greatestLevel : Nat} (c_RM_greatestLevel : Con y_RM_greatestLevel b_RM_greatestLevel 3 (some .int) dd_RM_greatestLevel 0 0 false sp_RM_greatestLevel) (hdd_RM_greatestLevel : dd_RM_greatestLevel + 1 ≤ dd) {sp_RM_sums : am_S} {dd_RM_sums : Nat} (c_RM_sums : Con y_RM_sums b_RM_sums 3 (some .int) dd_RM_sums 0 0 false sp_RM_sums) (hdd_RM_sums : dd_RM_sums + 1 ≤ dd) {l1 x_thrown x_nodes x_room x_states x_kinds x_rules x_numberings x_wholes x_gone x_steps x_old x_stuck x_answer x_badWhole x_same x_at : Int32} {c1 c2 c3 c4 c5 c6 c7 c8 c9 c10 c11 c12 c13 c14 c15 c16 c17 c18 : am_C}
    (h : (l1 = 0 → post (some (aI x_nodes)) [oC 5 [aI 0, aI x_nodes, aI x_room, aI x_states, aI x_kinds, aI x_rules, aR 1, aR 2, aR 3, aR 4, aR 5, aR 6, aR 7, aR 8, aI x_numberings, aI x_wholes, aI x_gone, aI x_steps, aI x_old, aI x_stuck, aI x_answer, aI x_badWhole, aR 9, aR 10, aR 11, aR 12, aR 13, aR 14, aR 15, aR 16, aR 17, aR 18, aI x_same, aI x_at], c1, c2, c3, c4, c5, c6, c7, c8, c9, c10, c11, c12, c13, c14, c15, c16, c17, c18]) ∧ (l1 = 1 → post (some (aI x_states)) [oC 5 [aI 0, aI x_nodes, aI x_room, aI x_states, aI x_kinds, aI x_rules, aR 1, aR 2, aR 3, aR 4, aR 5, aR 6, aR 7, aR 8, aI x_numberings, aI x_wholes, aI x_gone, aI x_steps, aI x_old, aI x_stuck, aI x_answer, aI x_badWhole, aR 9, aR 10, aR 11, aR 12, aR 13, aR 14, aR 15, aR 16, aR 17, aR 18, aI x_same, aI x_at], c1, c2, c3, c4, c5, c6, c7, c8, c9, c10, c11, c12, c13, c14, c15, c16, c17, c18]) ∧ (l1 = 2 → post (some (aI x_kinds)) [oC 5 [aI 0, aI x_nodes, aI x_room, aI x_states, aI x_kinds, aI x_rules, aR 1, aR 2, aR 3, aR 4, aR 5, aR 6, aR 7, aR 8, aI x_numberings, aI x_wholes, aI x_gone, aI x_steps, aI x_old, aI x_stuck, aI x_answer, aI x_badWhole, aR 9, aR 10, aR 11, aR 12, aR 13, aR 14, aR 15, aR 16, aR 17, aR 18, aI x_same, aI x_at], c1, c2, c3, c4, c5, c6, c7, c8, c9, c10, c11, c12, c13, c14, c15, c16, c17, c18]) ∧ (l1 = 3 → post (some (aI x_rules)) [oC 5 [aI 0, aI x_nodes, aI x_room, aI x_states, aI x_kinds, aI x_rules, aR 1, aR 2, aR 3, aR 4, aR 5, aR 6, aR 7, aR 8, aI x_numberings, aI x_wholes, aI x_gone, aI x_steps, aI x_old, aI x_stuck, aI x_answer, aI x_badWhole, aR 9, aR 10, aR 11, aR 12, aR 13, aR 14, aR 15, aR 16, aR 17, aR 18, aI x_same, aI x_at], c1, c2, c3, c4, c5, c6, c7, c8, c9, c10, c11, c12, c13, c14, c15, c16, c17, c18]) ∧ (l1 = 4 → post (some (aI x_wholes)) [oC 5 [aI 0, aI x_nodes, aI x_room, aI x_states, aI x_kinds, aI x_rules, aR 1, aR 2, aR 3, aR 4, aR 5, aR 6, aR 7, aR 8, aI x_numberings, aI x_wholes, aI x_gone, aI x_steps, aI x_old, aI x_stuck, aI x_answer, aI x_badWhole, aR 9, aR 10, aR 11, aR 12, aR 13, aR 14, aR 15, aR 16, aR 17, aR 18, aI x_same, aI x_at], c1, c2, c3, c4, c5, c6, c7, c8, c9, c10, c11, c12, c13, c14, c15, c16, c17, c18]) ∧ (l1 = 5 → post (some (aI x_gone)) [oC 5 [aI 0, aI x_nodes, aI x_room, aI x_states, aI x_kinds, aI x_rules, aR 1, aR 2, aR 3, aR 4, aR 5, aR 6, aR 7, aR 8, aI x_numberings, aI x_wholes, aI x_gone, aI x_steps, aI x_old, aI x_stuck, aI x_answer, aI x_badWhole, aR 9, aR 10, aR 11, aR 12, aR 13, aR 14, aR 15, aR 16, aR 17, aR 18, aI x_same, aI x_at], c1, c2, c3, c4, c5, c6, c7, c8, c9, c10, c11, c12, c13, c14, c15, c16, c17, c18]) ∧ (l1 = 6 → sp_RM_greatestLevel [aR 0] [oC 5 [aI 0, aI x_nodes, aI x_room, aI x_states, aI x_kinds, aI x_rules, aR 1, aR 2, aR 3, aR 4, aR 5, aR 6, aR 7, aR 8, aI x_numberings, aI x_wholes, aI x_gone, aI x_steps, aI x_old, aI x_stuck, aI x_answer, aI x_badWhole, aR 9, aR 10, aR 11, aR 12, aR 13, aR 14, aR 15, aR 16, aR 17, aR 18, aI x_same, aI x_at], c1, c2, c3, c4, c5, c6, c7, c8, c9, c10, c11, c12, c13, c14, c15, c16, c17, c18] (fun rv w' => AW X 98 [none, none] (rv.toList ++ []) w' bc bs)) ∧ (l1 = 7 → post (some (aI x_steps)) [oC 5 [aI 0, aI x_nodes, aI x_room, aI x_states, aI x_kinds, aI x_rules, aR 1, aR 2, aR 3, aR 4, aR 5, aR 6, aR 7, aR 8, aI x_numberings, aI x_wholes, aI x_gone, aI x_steps, aI x_old, aI x_stuck, aI x_answer, aI x_badWhole, aR 9, aR 10, aR 11, aR 12, aR 13, aR 14, aR 15, aR 16, aR 17, aR 18, aI x_same, aI x_at], c1, c2, c3, c4, c5, c6, c7, c8, c9, c10, c11, c12, c13, c14, c15, c16, c17, c18]) ∧ (l1 = 8 → post (some (aI x_old)) [oC 5 [aI 0, aI x_nodes, aI x_room, aI x_states, aI x_kinds, aI x_rules, aR 1, aR 2, aR 3, aR 4, aR 5, aR 6, aR 7, aR 8, aI x_numberings, aI x_wholes, aI x_gone, aI x_steps, aI x_old, aI x_stuck, aI x_answer, aI x_badWhole, aR 9, aR 10, aR 11, aR 12, aR 13, aR 14, aR 15, aR 16, aR 17, aR 18, aI x_same, aI x_at], c1, c2, c3, c4, c5, c6, c7, c8, c9, c10, c11, c12, c13, c14, c15, c16, c17, c18]) ∧ (l1 = 9 → post (some (aI x_stuck)) [oC 5 [aI 0, aI x_nodes, aI x_room, aI x_states, aI x_kinds, aI x_rules, aR 1, aR 2, aR 3, aR 4, aR 5, aR 6, aR 7, aR 8, aI x_numberings, aI x_wholes, aI x_gone, aI x_steps, aI x_old, aI x_stuck, aI x_answer, aI x_badWhole, aR 9, aR 10, aR 11, aR 12, aR 13, aR 14, aR 15, aR 16, aR 17, aR 18, aI x_same, aI x_at], c1, c2, c3, c4, c5, c6, c7, c8, c9, c10, c11, c12, c13, c14, c15, c16, c17, c18]) ∧ (l1 = 10 → sp_RM_sums [aR 0] [oC 5 [aI 0, aI x_nodes, aI x_room, aI x_states, aI x_kinds, aI x_rules, aR 1, aR 2, aR 3, aR 4, aR 5, aR 6, aR 7, aR 8, aI x_numberings, aI x_wholes, aI x_gone, aI x_steps, aI x_old, aI x_stuck, aI x_answer, aI x_badWhole, aR 9, aR 10, aR 11, aR 12, aR 13, aR 14, aR 15, aR 16, aR 17, aR 18, aI x_same, aI x_at], c1, c2, c3, c4, c5, c6, c7, c8, c9, c10, c11, c12, c13, c14, c15, c16, c17, c18] (fun rv w' => AW X 118 [none, none] (rv.toList ++ []) w' bc bs)) ∧ (l1.toInt < 0 ∨ 10 < l1.toInt → post (some (aI ((-1)))) [oC 5 [aI 0, aI x_nodes, aI x_room, aI x_states, aI x_kinds, aI x_rules, aR 1, aR 2, aR 3, aR 4, aR 5, aR 6, aR 7, aR 8, aI x_numberings, aI x_wholes, aI x_gone, aI x_steps, aI x_old, aI x_stuck, aI x_answer, aI x_badWhole, aR 9, aR 10, aR 11, aR 12, aR 13, aR 14, aR 15, aR 16, aR 17, aR 18, aI x_same, aI x_at], c1, c2, c3, c4, c5, c6, c7, c8, c9, c10, c11, c12, c13, c14, c15, c16, c17, c18])) :
    AW X 0 [some (aR 0), some (aI l1)] [] [oC 5 [aI x_thrown, aI x_nodes, aI x_room, aI x_states, aI x_kinds, aI x_rules, aR 1, aR 2, aR 3, aR 4, aR 5, aR 6, aR 7, aR 8, aI x_numberings, aI x_wholes, aI x_gone, aI x_steps, aI x_old, aI x_stuck, aI x_answer, aI x_badWhole, aR 9, aR 10, aR 11, aR 12, aR 13, aR 14, aR 15, aR 16, aR 17, aR 18, aI x_same, aI x_at], c1, c2, c3, c4, c5, c6, c7, c8, c9, c10, c11, c12, c13, c14, c15, c16, c17, c18] bc bs := by
  refine aw_aload_n K d_RM_count_0 rfl rfl ?_
  refine aw_iconst K d_RM_count_1 rfl (v := 0) (by decide) ?_
  refine aw_putf K fp_RM_79 d_RM_count_2 rfl rfl (Nat.le_of_ble_eq_true rfl) (am_fit_i _) (w' := [oC 5 [aI 0, aI x_nodes, aI x_room, aI x_states, aI x_kinds, aI x_rules, aR 1, aR 2, aR 3, aR 4, aR 5, aR 6, aR 7, aR 8, aI x_numberings, aI x_wholes, aI x_gone, aI x_steps, aI x_old, aI x_stuck, aI x_answer, aI x_badWhole, aR 9, aR 10, aR 11, aR 12, aR 13, aR 14, aR 15, aR 16, aR 17, aR 18, aI x_same, aI x_at], c1, c2, c3, c4, c5, c6, c7, c8, c9, c10, c11, c12, c13, c14, c15, c16, c17, c18]) rfl ?_
  refine aw_iload_n K d_RM_count_5 rfl rfl ?_
  refine aw_tsw K d_RM_count_6 (fun j hj e => ?_) (fun e => ⟨119, by decide, ?_⟩)
  · rcases (show j = 0 ∨ j = 1 ∨ j = 2 ∨ j = 3 ∨ j = 4 ∨ j = 5 ∨ j = 6 ∨ j = 7 ∨ j = 8 ∨ j = 9 ∨ j = 10 by omega) with rfl | rfl | rfl | rfl | rfl | rfl | rfl | rfl | rfl | rfl | rfl
    · have q : l1 = 0 := Int32.toInt_inj.mp (by rw [e]; rfl)
      refine ⟨_, 64, rfl, by decide, ?_⟩
      replace h := h.1 q
      refine aw_aload_n K d_RM_count_64 rfl rfl ?_
      refine aw_getf K fd_RM_70 d_RM_count_65 rfl rfl rfl ?_
      exact aw_iret K hr d_RM_count_68 h
    · have q : l1 = 1 := Int32.toInt_inj.mp (by rw [e]; rfl)
      refine ⟨_, 69, rfl, by decide, ?_⟩
      replace h := h.2.1 q
      refine aw_aload_n K d_RM_count_69 rfl rfl ?_
      refine aw_getf K fd_RM_7 d_RM_count_70 rfl rfl rfl ?_
      exact aw_iret K hr d_RM_count_73 h
    · have q : l1 = 2 := Int32.toInt_inj.mp (by rw [e]; rfl)
      refine ⟨_, 74, rfl, by decide, ?_⟩
      replace h := h.2.2.1 q
      refine aw_aload_n K d_RM_count_74 rfl rfl ?_
      refine aw_getf K fd_RM_110 d_RM_count_75 rfl rfl rfl ?_
      exact aw_iret K hr d_RM_count_78 h
    · have q : l1 = 3 := Int32.toInt_inj.mp (by rw [e]; rfl)
      refine ⟨_, 79, rfl, by decide, ?_⟩
      replace h := h.2.2.2.1 q
      refine aw_aload_n K d_RM_count_79 rfl rfl ?_
      refine aw_getf K fd_RM_117 d_RM_count_80 rfl rfl rfl ?_
      exact aw_iret K hr d_RM_count_83 h
    · have q : l1 = 4 := Int32.toInt_inj.mp (by rw [e]; rfl)
      refine ⟨_, 84, rfl, by decide, ?_⟩
      replace h := h.2.2.2.2.1 q
      refine aw_aload_n K d_RM_count_84 rfl rfl ?_
      refine aw_getf K fd_RM_82 d_RM_count_85 rfl rfl rfl ?_
      exact aw_iret K hr d_RM_count_88 h
    · have q : l1 = 5 := Int32.toInt_inj.mp (by rw [e]; rfl)
      refine ⟨_, 89, rfl, by decide, ?_⟩
      replace h := h.2.2.2.2.2.1 q
      refine aw_aload_n K d_RM_count_89 rfl rfl ?_
      refine aw_getf K fd_RM_85 d_RM_count_90 rfl rfl rfl ?_
      exact aw_iret K hr d_RM_count_93 h
    · have q : l1 = 6 := Int32.toInt_inj.mp (by rw [e]; rfl)
      refine ⟨_, 94, rfl, by decide, ?_⟩
      replace h := h.2.2.2.2.2.2.1 q
      refine aw_aload_n K d_RM_count_94 rfl rfl ?_
      refine aw_less [0, 1] rfl ?_
      exact aw_callV K c_RM_greatestLevel cb_RM_173 ci_RM_greatestLevel cs_RM_greatestLevel hdd_RM_greatestLevel (k := 0) rfl rfl d_RM_count_95 rfl (av := []) rfl (Nat.le_of_ble_eq_true rfl) h (fun rv w' hF => hF)
    · have q : l1 = 7 := Int32.toInt_inj.mp (by rw [e]; rfl)
      refine ⟨_, 99, rfl, by decide, ?_⟩
      replace h := h.2.2.2.2.2.2.2.1 q
      refine aw_aload_n K d_RM_count_99 rfl rfl ?_
      refine aw_getf K fd_RM_88 d_RM_count_100 rfl rfl rfl ?_
      exact aw_iret K hr d_RM_count_103 h
    · have q : l1 = 8 := Int32.toInt_inj.mp (by rw [e]; rfl)
      refine ⟨_, 104, rfl, by decide, ?_⟩
      replace h := h.2.2.2.2.2.2.2.2.1 q
      refine aw_aload_n K d_RM_count_104 rfl rfl ?_
      refine aw_getf K fd_RM_91 d_RM_count_105 rfl rfl rfl ?_
      exact aw_iret K hr d_RM_count_108 h
    · have q : l1 = 9 := Int32.toInt_inj.mp (by rw [e]; rfl)
      refine ⟨_, 109, rfl, by decide, ?_⟩
      replace h := h.2.2.2.2.2.2.2.2.2.1 q
      refine aw_aload_n K d_RM_count_109 rfl rfl ?_
      refine aw_getf K fd_RM_94 d_RM_count_110 rfl rfl rfl ?_
      exact aw_iret K hr d_RM_count_113 h
    · have q : l1 = 10 := Int32.toInt_inj.mp (by rw [e]; rfl)
      refine ⟨_, 114, rfl, by decide, ?_⟩
      replace h := h.2.2.2.2.2.2.2.2.2.2.1 q
      refine aw_aload_n K d_RM_count_114 rfl rfl ?_
      refine aw_less [0, 1] rfl ?_
      exact aw_callV K c_RM_sums cb_RM_177 ci_RM_sums cs_RM_sums hdd_RM_sums (k := 0) rfl rfl d_RM_count_115 rfl (av := []) rfl (Nat.le_of_ble_eq_true rfl) h (fun rv w' hF => hF)
  · replace h := h.2.2.2.2.2.2.2.2.2.2.2 e
    refine aw_iconst K d_RM_count_119 rfl (v := (-1)) (by decide) ?_
    exact aw_iret K hr d_RM_count_120 h
set_option maxRecDepth 20000 in
theorem x_RM_count_98 {X : am_X} {dd bc bs : Nat} (K : am_ok X b_RM_count R_RM 2 dd) {post : Option am_V → List am_C → Prop} (hr : am_rt X (some .int) post) {s0 x_thrown x_nodes x_room x_states x_kinds x_rules x_numberings x_wholes x_gone x_steps x_old x_stuck x_answer x_badWhole x_same x_at : Int32} {c1 c2 c3 c4 c5 c6 c7 c8 c9 c10 c11 c12 c13 c14 c15 c16 c17 c18 : am_C}
    (h : post (some (aI s0)) [oC 5 [aI x_thrown, aI x_nodes, aI x_room, aI x_states, aI x_kinds, aI x_rules, aR 1, aR 2, aR 3, aR 4, aR 5, aR 6, aR 7, aR 8, aI x_numberings, aI x_wholes, aI x_gone, aI x_steps, aI x_old, aI x_stuck, aI x_answer, aI x_badWhole, aR 9, aR 10, aR 11, aR 12, aR 13, aR 14, aR 15, aR 16, aR 17, aR 18, aI x_same, aI x_at], c1, c2, c3, c4, c5, c6, c7, c8, c9, c10, c11, c12, c13, c14, c15, c16, c17, c18]) :
    AW X 98 [none, none] [aI s0] [oC 5 [aI x_thrown, aI x_nodes, aI x_room, aI x_states, aI x_kinds, aI x_rules, aR 1, aR 2, aR 3, aR 4, aR 5, aR 6, aR 7, aR 8, aI x_numberings, aI x_wholes, aI x_gone, aI x_steps, aI x_old, aI x_stuck, aI x_answer, aI x_badWhole, aR 9, aR 10, aR 11, aR 12, aR 13, aR 14, aR 15, aR 16, aR 17, aR 18, aI x_same, aI x_at], c1, c2, c3, c4, c5, c6, c7, c8, c9, c10, c11, c12, c13, c14, c15, c16, c17, c18] bc bs := by
  exact aw_iret K hr d_RM_count_98 h
set_option maxRecDepth 20000 in
theorem x_RM_count_118 {X : am_X} {dd bc bs : Nat} (K : am_ok X b_RM_count R_RM 2 dd) {post : Option am_V → List am_C → Prop} (hr : am_rt X (some .int) post) {s0 x_thrown x_nodes x_room x_states x_kinds x_rules x_numberings x_wholes x_gone x_steps x_old x_stuck x_answer x_badWhole x_same x_at : Int32} {c1 c2 c3 c4 c5 c6 c7 c8 c9 c10 c11 c12 c13 c14 c15 c16 c17 c18 : am_C}
    (h : post (some (aI s0)) [oC 5 [aI x_thrown, aI x_nodes, aI x_room, aI x_states, aI x_kinds, aI x_rules, aR 1, aR 2, aR 3, aR 4, aR 5, aR 6, aR 7, aR 8, aI x_numberings, aI x_wholes, aI x_gone, aI x_steps, aI x_old, aI x_stuck, aI x_answer, aI x_badWhole, aR 9, aR 10, aR 11, aR 12, aR 13, aR 14, aR 15, aR 16, aR 17, aR 18, aI x_same, aI x_at], c1, c2, c3, c4, c5, c6, c7, c8, c9, c10, c11, c12, c13, c14, c15, c16, c17, c18]) :
    AW X 118 [none, none] [aI s0] [oC 5 [aI x_thrown, aI x_nodes, aI x_room, aI x_states, aI x_kinds, aI x_rules, aR 1, aR 2, aR 3, aR 4, aR 5, aR 6, aR 7, aR 8, aI x_numberings, aI x_wholes, aI x_gone, aI x_steps, aI x_old, aI x_stuck, aI x_answer, aI x_badWhole, aR 9, aR 10, aR 11, aR 12, aR 13, aR 14, aR 15, aR 16, aR 17, aR 18, aI x_same, aI x_at], c1, c2, c3, c4, c5, c6, c7, c8, c9, c10, c11, c12, c13, c14, c15, c16, c17, c18] bc bs := by
  exact aw_iret K hr d_RM_count_118 h
set_option maxRecDepth 20000 in
theorem x_RM_isOf_0 {X : am_X} {dd bc bs : Nat} (K : am_ok X b_RM_isOf R_RM 2 dd) {post : Option am_V → List am_C → Prop} (hr : am_rt X (some .boolean) post) {l0 l1 : Int32} {c0 c1 c2 c3 c4 c5 c6 c7 c8 c9 c10 c11 c12 c13 c14 c15 c16 c17 c18 : am_C}
    (h : (l0 < 0 → post (some (aI 0)) [c0, c1, c2, c3, c4, c5, c6, c7, c8, c9, c10, c11, c12, c13, c14, c15, c16, c17, c18]) ∧ (¬ l0 < 0 → (l1 ≤ l0 → post (some (aI 0)) [c0, c1, c2, c3, c4, c5, c6, c7, c8, c9, c10, c11, c12, c13, c14, c15, c16, c17, c18]) ∧ (¬ l1 ≤ l0 → post (some (aI 1)) [c0, c1, c2, c3, c4, c5, c6, c7, c8, c9, c10, c11, c12, c13, c14, c15, c16, c17, c18]))) :
    AW X 0 [some (aI l0), some (aI l1)] [] [c0, c1, c2, c3, c4, c5, c6, c7, c8, c9, c10, c11, c12, c13, c14, c15, c16, c17, c18] bc bs := by
  refine aw_iload_n K d_RM_isOf_0 rfl rfl ?_
  refine aw_if_lt K d_RM_isOf_1 (t := 13) (by decide) rfl (fun q => ?_) (fun q => ?_)
  · replace h := h.1 q
    refine aw_iconst K d_RM_isOf_13 rfl (v := 0) (by decide) ?_
    exact aw_zret K hr d_RM_isOf_14 (Or.inl rfl) h
  · replace h := h.2 q
    refine aw_iload_n K d_RM_isOf_4 rfl rfl ?_
    refine aw_iload_n K d_RM_isOf_5 rfl rfl ?_
    refine aw_icmp_ge K d_RM_isOf_6 (t := 13) (by decide) rfl (fun q => ?_) (fun q => ?_)
    · replace h := h.1 q
      refine aw_iconst K d_RM_isOf_13 rfl (v := 0) (by decide) ?_
      exact aw_zret K hr d_RM_isOf_14 (Or.inl rfl) h
    · replace h := h.2 q
      refine aw_iconst K d_RM_isOf_9 rfl (v := 1) (by decide) ?_
      refine aw_goto K d_RM_isOf_10 (n := 14) (by decide) ?_
      exact aw_zret K hr d_RM_isOf_14 (Or.inr rfl) h
set_option maxRecDepth 20000 in
theorem x_RM_add_16_0 {X : am_X} {dd bc bs : Nat} (K : am_ok X b_RM_add R_RM 5 dd) {post : Option am_V → List am_C → Prop} (hr : am_rt X none post) {l2 : Int32} {x_next : Nat → Int32} {c0 c1 c2 c3 c4 c5 c6 c7 c8 c9 c10 c11 c12 c13 c14 c15 c17 c18 : am_C}
    (h : AW X 7 [none, some (aR 16), some (aI l2), some (aI (x_next (4 : Int32).toNatClampNeg)), some (aI (x_next (4 : Int32).toNatClampNeg))] [] [c0, c1, c2, c3, c4, c5, c6, c7, c8, c9, c10, c11, c12, c13, c14, c15, iC 12 x_next, c17, c18] bc bs) :
    AW X 0 [some (aR 0), some (aR 16), some (aI l2), none, none] [] [c0, c1, c2, c3, c4, c5, c6, c7, c8, c9, c10, c11, c12, c13, c14, c15, iC 12 x_next, c17, c18] bc bs := by
  refine aw_aload_n K d_RM_add_0 rfl rfl ?_
  refine aw_iconst K d_RM_add_1 rfl (v := 4) (by decide) ?_
  refine aw_iald K d_RM_add_2 rfl rfl (vp_in_nI (n := 4) (by decide) (by decide)) ?_
  refine aw_istore_n K d_RM_add_3 rfl (by decide) (lv' := [some (aR 0), some (aR 16), some (aI l2), some (aI (x_next (4 : Int32).toNatClampNeg)), none]) rfl ?_
  refine aw_iload_n K d_RM_add_4 rfl rfl ?_
  refine aw_istore K d_RM_add_5 rfl (by decide) (lv' := [some (aR 0), some (aR 16), some (aI l2), some (aI (x_next (4 : Int32).toNatClampNeg)), some (aI (x_next (4 : Int32).toNatClampNeg))]) rfl ?_
  refine aw_less [0] rfl ?_
  exact h
set_option maxRecDepth 20000 in
theorem x_RM_add_16_7 {X : am_X} {dd bc bs : Nat} (K : am_ok X b_RM_add R_RM 5 dd) {post : Option am_V → List am_C → Prop} (hr : am_rt X none post) {l2 l3 l4 : Int32} {x_next : Nat → Int32} {c0 c1 c2 c3 c4 c5 c6 c7 c8 c9 c10 c11 c12 c13 c14 c15 c17 c18 : am_C}
    (h : (l4 ≤ 0 → AW X 40 [none, some (aR 16), some (aI l2), some (aI l3), some (aI l4)] [] [c0, c1, c2, c3, c4, c5, c6, c7, c8, c9, c10, c11, c12, c13, c14, c15, iC 12 x_next, c17, c18] bc bs) ∧ (¬ l4 ≤ 0 → vp_in ((4 : Int32) + l4) 12 ∧ ((x_next ((4 : Int32) + l4).toNatClampNeg) ≤ l2 → AW X 40 [none, some (aR 16), some (aI l2), some (aI l3), some (aI l4)] [] [c0, c1, c2, c3, c4, c5, c6, c7, c8, c9, c10, c11, c12, c13, c14, c15, iC 12 x_next, c17, c18] bc bs) ∧ (¬ (x_next ((4 : Int32) + l4).toNatClampNeg) ≤ l2 → vp_in ((4 : Int32) + l4) 12 ∧ vp_in ((5 : Int32) + l4) 12 ∧ AW X 7 [none, some (aR 16), some (aI l2), some (aI l3), some (aI (l4 + (-1)))] [] [c0, c1, c2, c3, c4, c5, c6, c7, c8, c9, c10, c11, c12, c13, c14, c15, iC 12 (upd x_next ((5 : Int32) + l4).toNatClampNeg (x_next ((4 : Int32) + l4).toNatClampNeg)), c17, c18] bc bs))) :
    AW X 7 [none, some (aR 16), some (aI l2), some (aI l3), some (aI l4)] [] [c0, c1, c2, c3, c4, c5, c6, c7, c8, c9, c10, c11, c12, c13, c14, c15, iC 12 x_next, c17, c18] bc bs := by
  refine aw_iload K d_RM_add_7 rfl rfl ?_
  refine aw_if_le K d_RM_add_9 (t := 40) (by decide) rfl (fun q => ?_) (fun q => ?_)
  · replace h := h.1 q
    exact h
  · replace h := h.2 q
    refine aw_aload_n K d_RM_add_12 rfl rfl ?_
    refine aw_iconst K d_RM_add_13 rfl (v := 4) (by decide) ?_
    refine aw_iload K d_RM_add_14 rfl rfl ?_
    refine aw_iadd K d_RM_add_16 rfl ?_
    refine aw_iald K d_RM_add_17 rfl rfl h.1 ?_
    replace h := h.2
    refine aw_iload_n K d_RM_add_18 rfl rfl ?_
    refine aw_icmp_le K d_RM_add_19 (t := 40) (by decide) rfl (fun q => ?_) (fun q => ?_)
    · replace h := h.1 q
      exact h
    · replace h := h.2 q
      refine aw_aload_n K d_RM_add_22 rfl rfl ?_
      refine aw_iconst K d_RM_add_23 rfl (v := 5) (by decide) ?_
      refine aw_iload K d_RM_add_24 rfl rfl ?_
      refine aw_iadd K d_RM_add_26 rfl ?_
      refine aw_aload_n K d_RM_add_27 rfl rfl ?_
      refine aw_iconst K d_RM_add_28 rfl (v := 4) (by decide) ?_
      refine aw_iload K d_RM_add_29 rfl rfl ?_
      refine aw_iadd K d_RM_add_31 rfl ?_
      refine aw_iald K d_RM_add_32 rfl rfl h.1 ?_
      replace h := h.2
      refine aw_iast K d_RM_add_33 rfl rfl h.1 (w' := [c0, c1, c2, c3, c4, c5, c6, c7, c8, c9, c10, c11, c12, c13, c14, c15, iC 12 (upd x_next ((5 : Int32) + l4).toNatClampNeg (x_next ((4 : Int32) + l4).toNatClampNeg)), c17, c18]) rfl ?_
      replace h := h.2
      refine aw_iinc K d_RM_add_34 rfl rfl (v := l4 + (-1)) rfl (by decide) (lv' := [none, some (aR 16), some (aI l2), some (aI l3), some (aI (l4 + (-1)))]) rfl ?_
      refine aw_goto K d_RM_add_37 (n := 7) (by decide) ?_
      exact h
set_option maxRecDepth 20000 in
theorem x_RM_add_16_40 {X : am_X} {dd bc bs : Nat} (K : am_ok X b_RM_add R_RM 5 dd) {post : Option am_V → List am_C → Prop} (hr : am_rt X none post) {l2 l3 l4 : Int32} {x_next : Nat → Int32} {c0 c1 c2 c3 c4 c5 c6 c7 c8 c9 c10 c11 c12 c13 c14 c15 c17 c18 : am_C}
    (h : vp_in ((5 : Int32) + l4) 12 ∧ post none [c0, c1, c2, c3, c4, c5, c6, c7, c8, c9, c10, c11, c12, c13, c14, c15, iC 12 (upd (upd x_next ((5 : Int32) + l4).toNatClampNeg l2) (4 : Int32).toNatClampNeg (l3 + (1 : Int32))), c17, c18]) :
    AW X 40 [none, some (aR 16), some (aI l2), some (aI l3), some (aI l4)] [] [c0, c1, c2, c3, c4, c5, c6, c7, c8, c9, c10, c11, c12, c13, c14, c15, iC 12 x_next, c17, c18] bc bs := by
  refine aw_aload_n K d_RM_add_40 rfl rfl ?_
  refine aw_iconst K d_RM_add_41 rfl (v := 5) (by decide) ?_
  refine aw_iload K d_RM_add_42 rfl rfl ?_
  refine aw_iadd K d_RM_add_44 rfl ?_
  refine aw_iload_n K d_RM_add_45 rfl rfl ?_
  refine aw_iast K d_RM_add_46 rfl rfl h.1 (w' := [c0, c1, c2, c3, c4, c5, c6, c7, c8, c9, c10, c11, c12, c13, c14, c15, iC 12 (upd x_next ((5 : Int32) + l4).toNatClampNeg l2), c17, c18]) rfl ?_
  replace h := h.2
  refine aw_aload_n K d_RM_add_47 rfl rfl ?_
  refine aw_iconst K d_RM_add_48 rfl (v := 4) (by decide) ?_
  refine aw_iload_n K d_RM_add_49 rfl rfl ?_
  refine aw_iconst K d_RM_add_50 rfl (v := 1) (by decide) ?_
  refine aw_iadd K d_RM_add_51 rfl ?_
  refine aw_iast K d_RM_add_52 rfl rfl (vp_in_nI (n := 4) (by decide) (by decide)) (w' := [c0, c1, c2, c3, c4, c5, c6, c7, c8, c9, c10, c11, c12, c13, c14, c15, iC 12 (upd (upd x_next ((5 : Int32) + l4).toNatClampNeg l2) (4 : Int32).toNatClampNeg (l3 + (1 : Int32))), c17, c18]) rfl ?_
  exact aw_vret K hr d_RM_add_53 h
set_option maxRecDepth 20000 in
theorem x_RM_add_17_0 {X : am_X} {dd bc bs : Nat} (K : am_ok X b_RM_add R_RM 5 dd) {post : Option am_V → List am_C → Prop} (hr : am_rt X none post) {l2 : Int32} {x_other : Nat → Int32} {c0 c1 c2 c3 c4 c5 c6 c7 c8 c9 c10 c11 c12 c13 c14 c15 c16 c18 : am_C}
    (h : AW X 7 [none, some (aR 17), some (aI l2), some (aI (x_other (4 : Int32).toNatClampNeg)), some (aI (x_other (4 : Int32).toNatClampNeg))] [] [c0, c1, c2, c3, c4, c5, c6, c7, c8, c9, c10, c11, c12, c13, c14, c15, c16, iC 12 x_other, c18] bc bs) :
    AW X 0 [some (aR 0), some (aR 17), some (aI l2), none, none] [] [c0, c1, c2, c3, c4, c5, c6, c7, c8, c9, c10, c11, c12, c13, c14, c15, c16, iC 12 x_other, c18] bc bs := by
  refine aw_aload_n K d_RM_add_0 rfl rfl ?_
  refine aw_iconst K d_RM_add_1 rfl (v := 4) (by decide) ?_
  refine aw_iald K d_RM_add_2 rfl rfl (vp_in_nI (n := 4) (by decide) (by decide)) ?_
  refine aw_istore_n K d_RM_add_3 rfl (by decide) (lv' := [some (aR 0), some (aR 17), some (aI l2), some (aI (x_other (4 : Int32).toNatClampNeg)), none]) rfl ?_
  refine aw_iload_n K d_RM_add_4 rfl rfl ?_
  refine aw_istore K d_RM_add_5 rfl (by decide) (lv' := [some (aR 0), some (aR 17), some (aI l2), some (aI (x_other (4 : Int32).toNatClampNeg)), some (aI (x_other (4 : Int32).toNatClampNeg))]) rfl ?_
  refine aw_less [0] rfl ?_
  exact h
set_option maxRecDepth 20000 in
theorem x_RM_add_17_7 {X : am_X} {dd bc bs : Nat} (K : am_ok X b_RM_add R_RM 5 dd) {post : Option am_V → List am_C → Prop} (hr : am_rt X none post) {l2 l3 l4 : Int32} {x_other : Nat → Int32} {c0 c1 c2 c3 c4 c5 c6 c7 c8 c9 c10 c11 c12 c13 c14 c15 c16 c18 : am_C}
    (h : (l4 ≤ 0 → AW X 40 [none, some (aR 17), some (aI l2), some (aI l3), some (aI l4)] [] [c0, c1, c2, c3, c4, c5, c6, c7, c8, c9, c10, c11, c12, c13, c14, c15, c16, iC 12 x_other, c18] bc bs) ∧ (¬ l4 ≤ 0 → vp_in ((4 : Int32) + l4) 12 ∧ ((x_other ((4 : Int32) + l4).toNatClampNeg) ≤ l2 → AW X 40 [none, some (aR 17), some (aI l2), some (aI l3), some (aI l4)] [] [c0, c1, c2, c3, c4, c5, c6, c7, c8, c9, c10, c11, c12, c13, c14, c15, c16, iC 12 x_other, c18] bc bs) ∧ (¬ (x_other ((4 : Int32) + l4).toNatClampNeg) ≤ l2 → vp_in ((4 : Int32) + l4) 12 ∧ vp_in ((5 : Int32) + l4) 12 ∧ AW X 7 [none, some (aR 17), some (aI l2), some (aI l3), some (aI (l4 + (-1)))] [] [c0, c1, c2, c3, c4, c5, c6, c7, c8, c9, c10, c11, c12, c13, c14, c15, c16, iC 12 (upd x_other ((5 : Int32) + l4).toNatClampNeg (x_other ((4 : Int32) + l4).toNatClampNeg)), c18] bc bs))) :
    AW X 7 [none, some (aR 17), some (aI l2), some (aI l3), some (aI l4)] [] [c0, c1, c2, c3, c4, c5, c6, c7, c8, c9, c10, c11, c12, c13, c14, c15, c16, iC 12 x_other, c18] bc bs := by
  refine aw_iload K d_RM_add_7 rfl rfl ?_
  refine aw_if_le K d_RM_add_9 (t := 40) (by decide) rfl (fun q => ?_) (fun q => ?_)
  · replace h := h.1 q
    exact h
  · replace h := h.2 q
    refine aw_aload_n K d_RM_add_12 rfl rfl ?_
    refine aw_iconst K d_RM_add_13 rfl (v := 4) (by decide) ?_
    refine aw_iload K d_RM_add_14 rfl rfl ?_
    refine aw_iadd K d_RM_add_16 rfl ?_
    refine aw_iald K d_RM_add_17 rfl rfl h.1 ?_
    replace h := h.2
    refine aw_iload_n K d_RM_add_18 rfl rfl ?_
    refine aw_icmp_le K d_RM_add_19 (t := 40) (by decide) rfl (fun q => ?_) (fun q => ?_)
    · replace h := h.1 q
      exact h
    · replace h := h.2 q
      refine aw_aload_n K d_RM_add_22 rfl rfl ?_
      refine aw_iconst K d_RM_add_23 rfl (v := 5) (by decide) ?_
      refine aw_iload K d_RM_add_24 rfl rfl ?_
      refine aw_iadd K d_RM_add_26 rfl ?_
      refine aw_aload_n K d_RM_add_27 rfl rfl ?_
      refine aw_iconst K d_RM_add_28 rfl (v := 4) (by decide) ?_
      refine aw_iload K d_RM_add_29 rfl rfl ?_
      refine aw_iadd K d_RM_add_31 rfl ?_
      refine aw_iald K d_RM_add_32 rfl rfl h.1 ?_
      replace h := h.2
      refine aw_iast K d_RM_add_33 rfl rfl h.1 (w' := [c0, c1, c2, c3, c4, c5, c6, c7, c8, c9, c10, c11, c12, c13, c14, c15, c16, iC 12 (upd x_other ((5 : Int32) + l4).toNatClampNeg (x_other ((4 : Int32) + l4).toNatClampNeg)), c18]) rfl ?_
      replace h := h.2
      refine aw_iinc K d_RM_add_34 rfl rfl (v := l4 + (-1)) rfl (by decide) (lv' := [none, some (aR 17), some (aI l2), some (aI l3), some (aI (l4 + (-1)))]) rfl ?_
      refine aw_goto K d_RM_add_37 (n := 7) (by decide) ?_
      exact h
set_option maxRecDepth 20000 in
theorem x_RM_add_17_40 {X : am_X} {dd bc bs : Nat} (K : am_ok X b_RM_add R_RM 5 dd) {post : Option am_V → List am_C → Prop} (hr : am_rt X none post) {l2 l3 l4 : Int32} {x_other : Nat → Int32} {c0 c1 c2 c3 c4 c5 c6 c7 c8 c9 c10 c11 c12 c13 c14 c15 c16 c18 : am_C}
    (h : vp_in ((5 : Int32) + l4) 12 ∧ post none [c0, c1, c2, c3, c4, c5, c6, c7, c8, c9, c10, c11, c12, c13, c14, c15, c16, iC 12 (upd (upd x_other ((5 : Int32) + l4).toNatClampNeg l2) (4 : Int32).toNatClampNeg (l3 + (1 : Int32))), c18]) :
    AW X 40 [none, some (aR 17), some (aI l2), some (aI l3), some (aI l4)] [] [c0, c1, c2, c3, c4, c5, c6, c7, c8, c9, c10, c11, c12, c13, c14, c15, c16, iC 12 x_other, c18] bc bs := by
  refine aw_aload_n K d_RM_add_40 rfl rfl ?_
  refine aw_iconst K d_RM_add_41 rfl (v := 5) (by decide) ?_
  refine aw_iload K d_RM_add_42 rfl rfl ?_
  refine aw_iadd K d_RM_add_44 rfl ?_
  refine aw_iload_n K d_RM_add_45 rfl rfl ?_
  refine aw_iast K d_RM_add_46 rfl rfl h.1 (w' := [c0, c1, c2, c3, c4, c5, c6, c7, c8, c9, c10, c11, c12, c13, c14, c15, c16, iC 12 (upd x_other ((5 : Int32) + l4).toNatClampNeg l2), c18]) rfl ?_
  replace h := h.2
  refine aw_aload_n K d_RM_add_47 rfl rfl ?_
  refine aw_iconst K d_RM_add_48 rfl (v := 4) (by decide) ?_
  refine aw_iload_n K d_RM_add_49 rfl rfl ?_
  refine aw_iconst K d_RM_add_50 rfl (v := 1) (by decide) ?_
  refine aw_iadd K d_RM_add_51 rfl ?_
  refine aw_iast K d_RM_add_52 rfl rfl (vp_in_nI (n := 4) (by decide) (by decide)) (w' := [c0, c1, c2, c3, c4, c5, c6, c7, c8, c9, c10, c11, c12, c13, c14, c15, c16, iC 12 (upd (upd x_other ((5 : Int32) + l4).toNatClampNeg l2) (4 : Int32).toNatClampNeg (l3 + (1 : Int32))), c18]) rfl ?_
  exact aw_vret K hr d_RM_add_53 h
set_option maxRecDepth 20000 in
theorem x_RM_compare_0 {X : am_X} {dd bc bs : Nat} (K : am_ok X b_RM_compare R_RM 4 dd) {post : Option am_V → List am_C → Prop} (hr : am_rt X (some .int) post) {l2 : Int32} {x_other x_least : Nat → Int32} {c0 c1 c2 c3 c4 c5 c6 c7 c8 c9 c10 c11 c12 c13 c14 c15 c16 : am_C}
    (h : AW X 2 [some (aR 17), some (aR 18), some (aI l2), some (aI 0)] [] [c0, c1, c2, c3, c4, c5, c6, c7, c8, c9, c10, c11, c12, c13, c14, c15, c16, iC 12 x_other, iC 12 x_least] bc bs) :
    AW X 0 [some (aR 17), some (aR 18), some (aI l2), none] [] [c0, c1, c2, c3, c4, c5, c6, c7, c8, c9, c10, c11, c12, c13, c14, c15, c16, iC 12 x_other, iC 12 x_least] bc bs := by
  refine aw_iconst K d_RM_compare_0 rfl (v := 0) (by decide) ?_
  refine aw_istore_n K d_RM_compare_1 rfl (by decide) (lv' := [some (aR 17), some (aR 18), some (aI l2), some (aI 0)]) rfl ?_
  exact h
set_option maxRecDepth 20000 in
theorem x_RM_compare_2 {X : am_X} {dd bc bs : Nat} (K : am_ok X b_RM_compare R_RM 4 dd) {post : Option am_V → List am_C → Prop} (hr : am_rt X (some .int) post) {l2 l3 : Int32} {x_other x_least : Nat → Int32} {c0 c1 c2 c3 c4 c5 c6 c7 c8 c9 c10 c11 c12 c13 c14 c15 c16 : am_C}
    (h : (l2 ≤ l3 → post (some (aI 0)) [c0, c1, c2, c3, c4, c5, c6, c7, c8, c9, c10, c11, c12, c13, c14, c15, c16, iC 12 x_other, iC 12 x_least]) ∧ (¬ l2 ≤ l3 → vp_in l3 12 ∧ vp_in l3 12 ∧ ((x_other l3.toNatClampNeg) = (x_least l3.toNatClampNeg) → AW X 2 [some (aR 17), some (aR 18), some (aI l2), some (aI (l3 + 1))] [] [c0, c1, c2, c3, c4, c5, c6, c7, c8, c9, c10, c11, c12, c13, c14, c15, c16, iC 12 x_other, iC 12 x_least] bc bs) ∧ (¬ (x_other l3.toNatClampNeg) = (x_least l3.toNatClampNeg) → vp_in l3 12 ∧ vp_in l3 12 ∧ ((x_least l3.toNatClampNeg) ≤ (x_other l3.toNatClampNeg) → post (some (aI 1)) [c0, c1, c2, c3, c4, c5, c6, c7, c8, c9, c10, c11, c12, c13, c14, c15, c16, iC 12 x_other, iC 12 x_least]) ∧ (¬ (x_least l3.toNatClampNeg) ≤ (x_other l3.toNatClampNeg) → post (some (aI ((-1)))) [c0, c1, c2, c3, c4, c5, c6, c7, c8, c9, c10, c11, c12, c13, c14, c15, c16, iC 12 x_other, iC 12 x_least])))) :
    AW X 2 [some (aR 17), some (aR 18), some (aI l2), some (aI l3)] [] [c0, c1, c2, c3, c4, c5, c6, c7, c8, c9, c10, c11, c12, c13, c14, c15, c16, iC 12 x_other, iC 12 x_least] bc bs := by
  refine aw_iload_n K d_RM_compare_2 rfl rfl ?_
  refine aw_iload_n K d_RM_compare_3 rfl rfl ?_
  refine aw_icmp_ge K d_RM_compare_4 (t := 37) (by decide) rfl (fun q => ?_) (fun q => ?_)
  · replace h := h.1 q
    refine aw_iconst K d_RM_compare_37 rfl (v := 0) (by decide) ?_
    exact aw_iret K hr d_RM_compare_38 h
  · replace h := h.2 q
    refine aw_aload_n K d_RM_compare_7 rfl rfl ?_
    refine aw_iload_n K d_RM_compare_8 rfl rfl ?_
    refine aw_iald K d_RM_compare_9 rfl rfl h.1 ?_
    replace h := h.2
    refine aw_aload_n K d_RM_compare_10 rfl rfl ?_
    refine aw_iload_n K d_RM_compare_11 rfl rfl ?_
    refine aw_iald K d_RM_compare_12 rfl rfl h.1 ?_
    replace h := h.2
    refine aw_icmp_eq K d_RM_compare_13 (t := 31) (by decide) rfl (fun q => ?_) (fun q => ?_)
    · replace h := h.1 q
      refine aw_iinc K d_RM_compare_31 rfl rfl (v := l3 + 1) rfl (by decide) (lv' := [some (aR 17), some (aR 18), some (aI l2), some (aI (l3 + 1))]) rfl ?_
      refine aw_goto K d_RM_compare_34 (n := 2) (by decide) ?_
      exact h
    · replace h := h.2 q
      refine aw_aload_n K d_RM_compare_16 rfl rfl ?_
      refine aw_iload_n K d_RM_compare_17 rfl rfl ?_
      refine aw_iald K d_RM_compare_18 rfl rfl h.1 ?_
      replace h := h.2
      refine aw_aload_n K d_RM_compare_19 rfl rfl ?_
      refine aw_iload_n K d_RM_compare_20 rfl rfl ?_
      refine aw_iald K d_RM_compare_21 rfl rfl h.1 ?_
      replace h := h.2
      refine aw_icmp_ge K d_RM_compare_22 (t := 29) (by decide) rfl (fun q => ?_) (fun q => ?_)
      · replace h := h.1 q
        refine aw_iconst K d_RM_compare_29 rfl (v := 1) (by decide) ?_
        exact aw_iret K hr d_RM_compare_30 h
      · replace h := h.2 q
        refine aw_iconst K d_RM_compare_25 rfl (v := (-1)) (by decide) ?_
        refine aw_goto K d_RM_compare_26 (n := 30) (by decide) ?_
        exact aw_iret K hr d_RM_compare_30 h

set_option maxRecDepth 20000 in
theorem x_Mo_hasState_0 {X : am_X} {dd bc bs : Nat} (K : am_ok X b_Mo_hasState R_Mo 2 dd) {post : Option am_V → List am_C → Prop} (hr : am_rt X (some .boolean) post) {l1 m_nodes m_states m_kinds m_rules : Int32} {m_badPairs : Int64} {c0 c2 c3 c4 c5 c6 c7 c8 c9 c10 c11 c12 c13 c14 c15 c16 c17 c18 c19 c20 c21 c22 c23 c24 c25 : am_C}
    (h : (l1 < 0 → post (some (aI 0)) [c0, oC 1 [aI m_nodes, aI m_states, aI m_kinds, aI m_rules, aR 2, aR 3, aR 4, aR 5, aR 6, aR 7, aR 8, aL m_badPairs], c2, c3, c4, c5, c6, c7, c8, c9, c10, c11, c12, c13, c14, c15, c16, c17, c18, c19, c20, c21, c22, c23, c24, c25]) ∧ (¬ l1 < 0 → (m_states ≤ l1 → post (some (aI 0)) [c0, oC 1 [aI m_nodes, aI m_states, aI m_kinds, aI m_rules, aR 2, aR 3, aR 4, aR 5, aR 6, aR 7, aR 8, aL m_badPairs], c2, c3, c4, c5, c6, c7, c8, c9, c10, c11, c12, c13, c14, c15, c16, c17, c18, c19, c20, c21, c22, c23, c24, c25]) ∧ (¬ m_states ≤ l1 → post (some (aI 1)) [c0, oC 1 [aI m_nodes, aI m_states, aI m_kinds, aI m_rules, aR 2, aR 3, aR 4, aR 5, aR 6, aR 7, aR 8, aL m_badPairs], c2, c3, c4, c5, c6, c7, c8, c9, c10, c11, c12, c13, c14, c15, c16, c17, c18, c19, c20, c21, c22, c23, c24, c25]))) :
    AW X 0 [some (aR 1), some (aI l1)] [] [c0, oC 1 [aI m_nodes, aI m_states, aI m_kinds, aI m_rules, aR 2, aR 3, aR 4, aR 5, aR 6, aR 7, aR 8, aL m_badPairs], c2, c3, c4, c5, c6, c7, c8, c9, c10, c11, c12, c13, c14, c15, c16, c17, c18, c19, c20, c21, c22, c23, c24, c25] bc bs := by
  refine aw_iload_n K d_Mo_hasState_0 rfl rfl ?_
  refine aw_if_lt K d_Mo_hasState_1 (t := 16) (by decide) rfl (fun q => ?_) (fun q => ?_)
  · replace h := h.1 q
    refine aw_iconst K d_Mo_hasState_16 rfl (v := 0) (by decide) ?_
    exact aw_zret K hr d_Mo_hasState_17 (Or.inl rfl) h
  · replace h := h.2 q
    refine aw_iload_n K d_Mo_hasState_4 rfl rfl ?_
    refine aw_aload_n K d_Mo_hasState_5 rfl rfl ?_
    refine aw_getf K fd_Mo_9 d_Mo_hasState_6 rfl rfl rfl ?_
    refine aw_icmp_ge K d_Mo_hasState_9 (t := 16) (by decide) rfl (fun q => ?_) (fun q => ?_)
    · replace h := h.1 q
      refine aw_iconst K d_Mo_hasState_16 rfl (v := 0) (by decide) ?_
      exact aw_zret K hr d_Mo_hasState_17 (Or.inl rfl) h
    · replace h := h.2 q
      refine aw_iconst K d_Mo_hasState_12 rfl (v := 1) (by decide) ?_
      refine aw_goto K d_Mo_hasState_13 (n := 17) (by decide) ?_
      exact aw_zret K hr d_Mo_hasState_17 (Or.inr rfl) h
set_option maxRecDepth 20000 in
theorem x_Mo_hasKind_0 {X : am_X} {dd bc bs : Nat} (K : am_ok X b_Mo_hasKind R_Mo 2 dd) {post : Option am_V → List am_C → Prop} (hr : am_rt X (some .boolean) post) {l1 m_nodes m_states m_kinds m_rules : Int32} {m_badPairs : Int64} {c0 c2 c3 c4 c5 c6 c7 c8 c9 c10 c11 c12 c13 c14 c15 c16 c17 c18 c19 c20 c21 c22 c23 c24 c25 : am_C}
    (h : (l1 < 0 → post (some (aI 0)) [c0, oC 1 [aI m_nodes, aI m_states, aI m_kinds, aI m_rules, aR 2, aR 3, aR 4, aR 5, aR 6, aR 7, aR 8, aL m_badPairs], c2, c3, c4, c5, c6, c7, c8, c9, c10, c11, c12, c13, c14, c15, c16, c17, c18, c19, c20, c21, c22, c23, c24, c25]) ∧ (¬ l1 < 0 → (m_kinds ≤ l1 → post (some (aI 0)) [c0, oC 1 [aI m_nodes, aI m_states, aI m_kinds, aI m_rules, aR 2, aR 3, aR 4, aR 5, aR 6, aR 7, aR 8, aL m_badPairs], c2, c3, c4, c5, c6, c7, c8, c9, c10, c11, c12, c13, c14, c15, c16, c17, c18, c19, c20, c21, c22, c23, c24, c25]) ∧ (¬ m_kinds ≤ l1 → post (some (aI 1)) [c0, oC 1 [aI m_nodes, aI m_states, aI m_kinds, aI m_rules, aR 2, aR 3, aR 4, aR 5, aR 6, aR 7, aR 8, aL m_badPairs], c2, c3, c4, c5, c6, c7, c8, c9, c10, c11, c12, c13, c14, c15, c16, c17, c18, c19, c20, c21, c22, c23, c24, c25]))) :
    AW X 0 [some (aR 1), some (aI l1)] [] [c0, oC 1 [aI m_nodes, aI m_states, aI m_kinds, aI m_rules, aR 2, aR 3, aR 4, aR 5, aR 6, aR 7, aR 8, aL m_badPairs], c2, c3, c4, c5, c6, c7, c8, c9, c10, c11, c12, c13, c14, c15, c16, c17, c18, c19, c20, c21, c22, c23, c24, c25] bc bs := by
  refine aw_iload_n K d_Mo_hasKind_0 rfl rfl ?_
  refine aw_if_lt K d_Mo_hasKind_1 (t := 16) (by decide) rfl (fun q => ?_) (fun q => ?_)
  · replace h := h.1 q
    refine aw_iconst K d_Mo_hasKind_16 rfl (v := 0) (by decide) ?_
    exact aw_zret K hr d_Mo_hasKind_17 (Or.inl rfl) h
  · replace h := h.2 q
    refine aw_iload_n K d_Mo_hasKind_4 rfl rfl ?_
    refine aw_aload_n K d_Mo_hasKind_5 rfl rfl ?_
    refine aw_getf K fd_Mo_15 d_Mo_hasKind_6 rfl rfl rfl ?_
    refine aw_icmp_ge K d_Mo_hasKind_9 (t := 16) (by decide) rfl (fun q => ?_) (fun q => ?_)
    · replace h := h.1 q
      refine aw_iconst K d_Mo_hasKind_16 rfl (v := 0) (by decide) ?_
      exact aw_zret K hr d_Mo_hasKind_17 (Or.inl rfl) h
    · replace h := h.2 q
      refine aw_iconst K d_Mo_hasKind_12 rfl (v := 1) (by decide) ?_
      refine aw_goto K d_Mo_hasKind_13 (n := 17) (by decide) ?_
      exact aw_zret K hr d_Mo_hasKind_17 (Or.inr rfl) h
set_option maxRecDepth 20000 in
theorem x_Mo_addRule_0 {X : am_X} {dd bc bs : Nat} (K : am_ok X b_Mo_addRule R_Mo 4 dd) {post : Option am_V → List am_C → Prop} (hr : am_rt X (some .int) post) {l1 l2 l3 m_nodes m_states m_kinds m_rules : Int32} {m_badPairs : Int64} {m_starts m_events m_targets m_growths : Nat → Int32} {c0 c5 c6 c7 c9 c10 c11 c12 c13 c14 c15 c16 c17 c18 c19 c20 c21 c22 c23 c24 c25 : am_C}
    (h : vp_in m_rules 40 ∧ vp_in m_rules 40 ∧ vp_in m_rules 40 ∧ (¬ l2 = ((-1)) → AW X 48 [some (aR 1), none, none, none] [aI ((-1)), aI m_rules, aR 8] [c0, oC 1 [aI m_nodes, aI m_states, aI m_kinds, aI m_rules, aR 2, aR 3, aR 4, aR 5, aR 6, aR 7, aR 8, aL m_badPairs], iC 40 (upd m_starts m_rules.toNatClampNeg l1), iC 40 (upd m_events m_rules.toNatClampNeg l2), iC 40 (upd m_targets m_rules.toNatClampNeg l3), c5, c6, c7, iC 40 m_growths, c9, c10, c11, c12, c13, c14, c15, c16, c17, c18, c19, c20, c21, c22, c23, c24, c25] bc bs) ∧ (l2 = ((-1)) → AW X 48 [some (aR 1), none, none, none] [aI 0, aI m_rules, aR 8] [c0, oC 1 [aI m_nodes, aI m_states, aI m_kinds, aI m_rules, aR 2, aR 3, aR 4, aR 5, aR 6, aR 7, aR 8, aL m_badPairs], iC 40 (upd m_starts m_rules.toNatClampNeg l1), iC 40 (upd m_events m_rules.toNatClampNeg l2), iC 40 (upd m_targets m_rules.toNatClampNeg l3), c5, c6, c7, iC 40 m_growths, c9, c10, c11, c12, c13, c14, c15, c16, c17, c18, c19, c20, c21, c22, c23, c24, c25] bc bs)) :
    AW X 0 [some (aR 1), some (aI l1), some (aI l2), some (aI l3)] [] [c0, oC 1 [aI m_nodes, aI m_states, aI m_kinds, aI m_rules, aR 2, aR 3, aR 4, aR 5, aR 6, aR 7, aR 8, aL m_badPairs], iC 40 m_starts, iC 40 m_events, iC 40 m_targets, c5, c6, c7, iC 40 m_growths, c9, c10, c11, c12, c13, c14, c15, c16, c17, c18, c19, c20, c21, c22, c23, c24, c25] bc bs := by
  refine aw_aload_n K d_Mo_addRule_0 rfl rfl ?_
  refine aw_getf K fd_Mo_21 d_Mo_addRule_1 rfl rfl rfl ?_
  refine aw_aload_n K d_Mo_addRule_4 rfl rfl ?_
  refine aw_getf K fd_Mo_18 d_Mo_addRule_5 rfl rfl rfl ?_
  refine aw_iload_n K d_Mo_addRule_8 rfl rfl ?_
  refine aw_iast K d_Mo_addRule_9 rfl rfl h.1 (w' := [c0, oC 1 [aI m_nodes, aI m_states, aI m_kinds, aI m_rules, aR 2, aR 3, aR 4, aR 5, aR 6, aR 7, aR 8, aL m_badPairs], iC 40 (upd m_starts m_rules.toNatClampNeg l1), iC 40 m_events, iC 40 m_targets, c5, c6, c7, iC 40 m_growths, c9, c10, c11, c12, c13, c14, c15, c16, c17, c18, c19, c20, c21, c22, c23, c24, c25]) rfl ?_
  replace h := h.2
  refine aw_aload_n K d_Mo_addRule_10 rfl rfl ?_
  refine aw_getf K fd_Mo_25 d_Mo_addRule_11 rfl rfl rfl ?_
  refine aw_aload_n K d_Mo_addRule_14 rfl rfl ?_
  refine aw_getf K fd_Mo_18 d_Mo_addRule_15 rfl rfl rfl ?_
  refine aw_iload_n K d_Mo_addRule_18 rfl rfl ?_
  refine aw_iast K d_Mo_addRule_19 rfl rfl h.1 (w' := [c0, oC 1 [aI m_nodes, aI m_states, aI m_kinds, aI m_rules, aR 2, aR 3, aR 4, aR 5, aR 6, aR 7, aR 8, aL m_badPairs], iC 40 (upd m_starts m_rules.toNatClampNeg l1), iC 40 (upd m_events m_rules.toNatClampNeg l2), iC 40 m_targets, c5, c6, c7, iC 40 m_growths, c9, c10, c11, c12, c13, c14, c15, c16, c17, c18, c19, c20, c21, c22, c23, c24, c25]) rfl ?_
  replace h := h.2
  refine aw_aload_n K d_Mo_addRule_20 rfl rfl ?_
  refine aw_getf K fd_Mo_28 d_Mo_addRule_21 rfl rfl rfl ?_
  refine aw_aload_n K d_Mo_addRule_24 rfl rfl ?_
  refine aw_getf K fd_Mo_18 d_Mo_addRule_25 rfl rfl rfl ?_
  refine aw_iload_n K d_Mo_addRule_28 rfl rfl ?_
  refine aw_iast K d_Mo_addRule_29 rfl rfl h.1 (w' := [c0, oC 1 [aI m_nodes, aI m_states, aI m_kinds, aI m_rules, aR 2, aR 3, aR 4, aR 5, aR 6, aR 7, aR 8, aL m_badPairs], iC 40 (upd m_starts m_rules.toNatClampNeg l1), iC 40 (upd m_events m_rules.toNatClampNeg l2), iC 40 (upd m_targets m_rules.toNatClampNeg l3), c5, c6, c7, iC 40 m_growths, c9, c10, c11, c12, c13, c14, c15, c16, c17, c18, c19, c20, c21, c22, c23, c24, c25]) rfl ?_
  replace h := h.2
  refine aw_aload_n K d_Mo_addRule_30 rfl rfl ?_
  refine aw_getf K fd_Mo_40 d_Mo_addRule_31 rfl rfl rfl ?_
  refine aw_aload_n K d_Mo_addRule_34 rfl rfl ?_
  refine aw_getf K fd_Mo_18 d_Mo_addRule_35 rfl rfl rfl ?_
  refine aw_iload_n K d_Mo_addRule_38 rfl rfl ?_
  refine aw_iconst K d_Mo_addRule_39 rfl (v := (-1)) (by decide) ?_
  refine aw_icmp_ne K d_Mo_addRule_40 (t := 47) (by decide) rfl (fun q => ?_) (fun q => ?_)
  · replace h := h.1 q
    refine aw_iconst K d_Mo_addRule_47 rfl (v := (-1)) (by decide) ?_
    refine aw_less [1, 2, 3] rfl ?_
    exact h
  · replace h := h.2 q
    refine aw_iconst K d_Mo_addRule_43 rfl (v := 0) (by decide) ?_
    refine aw_goto K d_Mo_addRule_44 (n := 48) (by decide) ?_
    refine aw_less [1, 2, 3] rfl ?_
    exact h
set_option maxRecDepth 20000 in
theorem x_Mo_addRule_48 {X : am_X} {dd bc bs : Nat} (K : am_ok X b_Mo_addRule R_Mo 4 dd) {post : Option am_V → List am_C → Prop} (hr : am_rt X (some .int) post) {s0 s1 m_nodes m_states m_kinds m_rules : Int32} {m_badPairs : Int64} {m_starts m_events m_targets m_growths : Nat → Int32} {c0 c5 c6 c7 c9 c10 c11 c12 c13 c14 c15 c16 c17 c18 c19 c20 c21 c22 c23 c24 c25 : am_C}
    (h : vp_in s1 40 ∧ post (some (aI m_rules)) [c0, oC 1 [aI m_nodes, aI m_states, aI m_kinds, aI (m_rules + (1 : Int32)), aR 2, aR 3, aR 4, aR 5, aR 6, aR 7, aR 8, aL m_badPairs], iC 40 m_starts, iC 40 m_events, iC 40 m_targets, c5, c6, c7, iC 40 (upd m_growths s1.toNatClampNeg s0), c9, c10, c11, c12, c13, c14, c15, c16, c17, c18, c19, c20, c21, c22, c23, c24, c25]) :
    AW X 48 [some (aR 1), none, none, none] [aI s0, aI s1, aR 8] [c0, oC 1 [aI m_nodes, aI m_states, aI m_kinds, aI m_rules, aR 2, aR 3, aR 4, aR 5, aR 6, aR 7, aR 8, aL m_badPairs], iC 40 m_starts, iC 40 m_events, iC 40 m_targets, c5, c6, c7, iC 40 m_growths, c9, c10, c11, c12, c13, c14, c15, c16, c17, c18, c19, c20, c21, c22, c23, c24, c25] bc bs := by
  refine aw_iast K d_Mo_addRule_48 rfl rfl h.1 (w' := [c0, oC 1 [aI m_nodes, aI m_states, aI m_kinds, aI m_rules, aR 2, aR 3, aR 4, aR 5, aR 6, aR 7, aR 8, aL m_badPairs], iC 40 m_starts, iC 40 m_events, iC 40 m_targets, c5, c6, c7, iC 40 (upd m_growths s1.toNatClampNeg s0), c9, c10, c11, c12, c13, c14, c15, c16, c17, c18, c19, c20, c21, c22, c23, c24, c25]) rfl ?_
  replace h := h.2
  refine aw_aload_n K d_Mo_addRule_49 rfl rfl ?_
  refine aw_dup K d_Mo_addRule_50 rfl (fun _ e => nomatch e) ?_
  refine aw_getf K fd_Mo_18 d_Mo_addRule_51 rfl rfl rfl ?_
  refine aw_dup_x1 K d_Mo_addRule_54 rfl (fun _ e => nomatch e) (fun _ e => nomatch e) ?_
  refine aw_iconst K d_Mo_addRule_55 rfl (v := 1) (by decide) ?_
  refine aw_iadd K d_Mo_addRule_56 rfl ?_
  refine aw_putf K fp_Mo_18 d_Mo_addRule_57 rfl rfl (Nat.le_of_ble_eq_true rfl) (am_fit_i _) (w' := [c0, oC 1 [aI m_nodes, aI m_states, aI m_kinds, aI (m_rules + (1 : Int32)), aR 2, aR 3, aR 4, aR 5, aR 6, aR 7, aR 8, aL m_badPairs], iC 40 m_starts, iC 40 m_events, iC 40 m_targets, c5, c6, c7, iC 40 (upd m_growths s1.toNatClampNeg s0), c9, c10, c11, c12, c13, c14, c15, c16, c17, c18, c19, c20, c21, c22, c23, c24, c25]) rfl ?_
  exact aw_iret K hr d_Mo_addRule_60 h
set_option maxRecDepth 20000 in
theorem x_Mo_addSend_0 {X : am_X} {dd bc bs : Nat} (K : am_ok X b_Mo_addSend R_Mo 5 dd) {post : Option am_V → List am_C → Prop} (hr : am_rt X (some .int) post) {l1 l2 l3 m_nodes m_states m_kinds m_rules : Int32} {m_badPairs : Int64} {m_sends m_sentKinds m_sentWhom m_growths : Nat → Int32} {c0 c2 c3 c4 c9 c10 c11 c12 c13 c14 c15 c16 c17 c18 c19 c20 c21 c22 c23 c24 c25 : am_C}
    (h : vp_in l1 40 ∧ vp_in ((l1 * (4 : Int32)) + (m_sends l1.toNatClampNeg)) 160 ∧ vp_in ((l1 * (4 : Int32)) + (m_sends l1.toNatClampNeg)) 160 ∧ vp_in l1 40 ∧ (¬ l3 = 0 → AW X 49 [some (aR 1), some (aI l1), none, none, none] [aI (m_nodes - (1 : Int32)), aI (m_growths l1.toNatClampNeg), aI l1, aR 8] [c0, oC 1 [aI m_nodes, aI m_states, aI m_kinds, aI m_rules, aR 2, aR 3, aR 4, aR 5, aR 6, aR 7, aR 8, aL m_badPairs], c2, c3, c4, iC 40 m_sends, iC 160 (upd m_sentKinds ((l1 * (4 : Int32)) + (m_sends l1.toNatClampNeg)).toNatClampNeg l2), iC 160 (upd m_sentWhom ((l1 * (4 : Int32)) + (m_sends l1.toNatClampNeg)).toNatClampNeg l3), iC 40 m_growths, c9, c10, c11, c12, c13, c14, c15, c16, c17, c18, c19, c20, c21, c22, c23, c24, c25] bc bs) ∧ (l3 = 0 → AW X 49 [some (aR 1), some (aI l1), none, none, none] [aI 1, aI (m_growths l1.toNatClampNeg), aI l1, aR 8] [c0, oC 1 [aI m_nodes, aI m_states, aI m_kinds, aI m_rules, aR 2, aR 3, aR 4, aR 5, aR 6, aR 7, aR 8, aL m_badPairs], c2, c3, c4, iC 40 m_sends, iC 160 (upd m_sentKinds ((l1 * (4 : Int32)) + (m_sends l1.toNatClampNeg)).toNatClampNeg l2), iC 160 (upd m_sentWhom ((l1 * (4 : Int32)) + (m_sends l1.toNatClampNeg)).toNatClampNeg l3), iC 40 m_growths, c9, c10, c11, c12, c13, c14, c15, c16, c17, c18, c19, c20, c21, c22, c23, c24, c25] bc bs)) :
    AW X 0 [some (aR 1), some (aI l1), some (aI l2), some (aI l3), none] [] [c0, oC 1 [aI m_nodes, aI m_states, aI m_kinds, aI m_rules, aR 2, aR 3, aR 4, aR 5, aR 6, aR 7, aR 8, aL m_badPairs], c2, c3, c4, iC 40 m_sends, iC 160 m_sentKinds, iC 160 m_sentWhom, iC 40 m_growths, c9, c10, c11, c12, c13, c14, c15, c16, c17, c18, c19, c20, c21, c22, c23, c24, c25] bc bs := by
  refine aw_iload_n K d_Mo_addSend_0 rfl rfl ?_
  refine aw_iconst K d_Mo_addSend_1 rfl (v := 4) (by decide) ?_
  refine aw_imul K d_Mo_addSend_2 rfl ?_
  refine aw_aload_n K d_Mo_addSend_3 rfl rfl ?_
  refine aw_getf K fd_Mo_31 d_Mo_addSend_4 rfl rfl rfl ?_
  refine aw_iload_n K d_Mo_addSend_7 rfl rfl ?_
  refine aw_iald K d_Mo_addSend_8 rfl rfl h.1 ?_
  replace h := h.2
  refine aw_iadd K d_Mo_addSend_9 rfl ?_
  refine aw_istore K d_Mo_addSend_10 rfl (by decide) (lv' := [some (aR 1), some (aI l1), some (aI l2), some (aI l3), some (aI ((l1 * (4 : Int32)) + (m_sends l1.toNatClampNeg)))]) rfl ?_
  refine aw_aload_n K d_Mo_addSend_12 rfl rfl ?_
  refine aw_getf K fd_Mo_34 d_Mo_addSend_13 rfl rfl rfl ?_
  refine aw_iload K d_Mo_addSend_16 rfl rfl ?_
  refine aw_iload_n K d_Mo_addSend_18 rfl rfl ?_
  refine aw_iast K d_Mo_addSend_19 rfl rfl h.1 (w' := [c0, oC 1 [aI m_nodes, aI m_states, aI m_kinds, aI m_rules, aR 2, aR 3, aR 4, aR 5, aR 6, aR 7, aR 8, aL m_badPairs], c2, c3, c4, iC 40 m_sends, iC 160 (upd m_sentKinds ((l1 * (4 : Int32)) + (m_sends l1.toNatClampNeg)).toNatClampNeg l2), iC 160 m_sentWhom, iC 40 m_growths, c9, c10, c11, c12, c13, c14, c15, c16, c17, c18, c19, c20, c21, c22, c23, c24, c25]) rfl ?_
  replace h := h.2
  refine aw_aload_n K d_Mo_addSend_20 rfl rfl ?_
  refine aw_getf K fd_Mo_37 d_Mo_addSend_21 rfl rfl rfl ?_
  refine aw_iload K d_Mo_addSend_24 rfl rfl ?_
  refine aw_iload_n K d_Mo_addSend_26 rfl rfl ?_
  refine aw_iast K d_Mo_addSend_27 rfl rfl h.1 (w' := [c0, oC 1 [aI m_nodes, aI m_states, aI m_kinds, aI m_rules, aR 2, aR 3, aR 4, aR 5, aR 6, aR 7, aR 8, aL m_badPairs], c2, c3, c4, iC 40 m_sends, iC 160 (upd m_sentKinds ((l1 * (4 : Int32)) + (m_sends l1.toNatClampNeg)).toNatClampNeg l2), iC 160 (upd m_sentWhom ((l1 * (4 : Int32)) + (m_sends l1.toNatClampNeg)).toNatClampNeg l3), iC 40 m_growths, c9, c10, c11, c12, c13, c14, c15, c16, c17, c18, c19, c20, c21, c22, c23, c24, c25]) rfl ?_
  replace h := h.2
  refine aw_aload_n K d_Mo_addSend_28 rfl rfl ?_
  refine aw_getf K fd_Mo_40 d_Mo_addSend_29 rfl rfl rfl ?_
  refine aw_iload_n K d_Mo_addSend_32 rfl rfl ?_
  refine aw_dup2 K d_Mo_addSend_33 rfl (fun _ e => nomatch e) (fun _ e => nomatch e) ?_
  refine aw_iald K d_Mo_addSend_34 rfl rfl h.1 ?_
  replace h := h.2
  refine aw_iload_n K d_Mo_addSend_35 rfl rfl ?_
  refine aw_if_ne K d_Mo_addSend_36 (t := 43) (by decide) rfl (fun q => ?_) (fun q => ?_)
  · replace h := h.1 q
    refine aw_aload_n K d_Mo_addSend_43 rfl rfl ?_
    refine aw_getf K fd_Mo_47 d_Mo_addSend_44 rfl rfl rfl ?_
    refine aw_iconst K d_Mo_addSend_47 rfl (v := 1) (by decide) ?_
    refine aw_isub K d_Mo_addSend_48 rfl ?_
    refine aw_less [2, 3, 4] rfl ?_
    exact h
  · replace h := h.2 q
    refine aw_iconst K d_Mo_addSend_39 rfl (v := 1) (by decide) ?_
    refine aw_goto K d_Mo_addSend_40 (n := 49) (by decide) ?_
    refine aw_less [2, 3, 4] rfl ?_
    exact h
set_option maxRecDepth 20000 in
theorem x_Mo_addSend_49 {X : am_X} {dd bc bs : Nat} (K : am_ok X b_Mo_addSend R_Mo 5 dd) {post : Option am_V → List am_C → Prop} (hr : am_rt X (some .int) post) {l1 s0 s1 s2 m_nodes m_states m_kinds m_rules : Int32} {m_badPairs : Int64} {m_sends m_sentKinds m_sentWhom m_growths : Nat → Int32} {c0 c2 c3 c4 c9 c10 c11 c12 c13 c14 c15 c16 c17 c18 c19 c20 c21 c22 c23 c24 c25 : am_C}
    (h : vp_in s2 40 ∧ vp_in l1 40 ∧ vp_in l1 40 ∧ post (some (aI ((m_sends l1.toNatClampNeg) + (1 : Int32)))) [c0, oC 1 [aI m_nodes, aI m_states, aI m_kinds, aI m_rules, aR 2, aR 3, aR 4, aR 5, aR 6, aR 7, aR 8, aL m_badPairs], c2, c3, c4, iC 40 (upd m_sends l1.toNatClampNeg ((m_sends l1.toNatClampNeg) + (1 : Int32))), iC 160 m_sentKinds, iC 160 m_sentWhom, iC 40 (upd m_growths s2.toNatClampNeg (s1 + s0)), c9, c10, c11, c12, c13, c14, c15, c16, c17, c18, c19, c20, c21, c22, c23, c24, c25]) :
    AW X 49 [some (aR 1), some (aI l1), none, none, none] [aI s0, aI s1, aI s2, aR 8] [c0, oC 1 [aI m_nodes, aI m_states, aI m_kinds, aI m_rules, aR 2, aR 3, aR 4, aR 5, aR 6, aR 7, aR 8, aL m_badPairs], c2, c3, c4, iC 40 m_sends, iC 160 m_sentKinds, iC 160 m_sentWhom, iC 40 m_growths, c9, c10, c11, c12, c13, c14, c15, c16, c17, c18, c19, c20, c21, c22, c23, c24, c25] bc bs := by
  refine aw_iadd K d_Mo_addSend_49 rfl ?_
  refine aw_iast K d_Mo_addSend_50 rfl rfl h.1 (w' := [c0, oC 1 [aI m_nodes, aI m_states, aI m_kinds, aI m_rules, aR 2, aR 3, aR 4, aR 5, aR 6, aR 7, aR 8, aL m_badPairs], c2, c3, c4, iC 40 m_sends, iC 160 m_sentKinds, iC 160 m_sentWhom, iC 40 (upd m_growths s2.toNatClampNeg (s1 + s0)), c9, c10, c11, c12, c13, c14, c15, c16, c17, c18, c19, c20, c21, c22, c23, c24, c25]) rfl ?_
  replace h := h.2
  refine aw_aload_n K d_Mo_addSend_51 rfl rfl ?_
  refine aw_getf K fd_Mo_31 d_Mo_addSend_52 rfl rfl rfl ?_
  refine aw_iload_n K d_Mo_addSend_55 rfl rfl ?_
  refine aw_dup2 K d_Mo_addSend_56 rfl (fun _ e => nomatch e) (fun _ e => nomatch e) ?_
  refine aw_iald K d_Mo_addSend_57 rfl rfl h.1 ?_
  replace h := h.2
  refine aw_iconst K d_Mo_addSend_58 rfl (v := 1) (by decide) ?_
  refine aw_iadd K d_Mo_addSend_59 rfl ?_
  refine aw_dup_x2 K d_Mo_addSend_60 rfl (fun _ e => nomatch e) (fun _ e => nomatch e) (fun _ e => nomatch e) ?_
  refine aw_iast K d_Mo_addSend_61 rfl rfl h.1 (w' := [c0, oC 1 [aI m_nodes, aI m_states, aI m_kinds, aI m_rules, aR 2, aR 3, aR 4, aR 5, aR 6, aR 7, aR 8, aL m_badPairs], c2, c3, c4, iC 40 (upd m_sends l1.toNatClampNeg ((m_sends l1.toNatClampNeg) + (1 : Int32))), iC 160 m_sentKinds, iC 160 m_sentWhom, iC 40 (upd m_growths s2.toNatClampNeg (s1 + s0)), c9, c10, c11, c12, c13, c14, c15, c16, c17, c18, c19, c20, c21, c22, c23, c24, c25]) rfl ?_
  replace h := h.2
  exact aw_iret K hr d_Mo_addSend_62 h
set_option maxRecDepth 20000 in
theorem x_Mo_isBadPair_0 {X : am_X} {dd bc bs : Nat} (K : am_ok X b_Mo_isBadPair R_Mo 3 dd) {post : Option am_V → List am_C → Prop} (hr : am_rt X (some .boolean) post) {l1 l2 m_nodes m_states m_kinds m_rules : Int32} {m_badPairs : Int64} {c0 c2 c3 c4 c5 c6 c7 c8 c9 c10 c11 c12 c13 c14 c15 c16 c17 c18 c19 c20 c21 c22 c23 c24 c25 : am_C}
    (h : ((lg_cmp (m_badPairs &&& ((1 : Int64) <<< ((((8 : Int32) * l1) + l2).toInt64 &&& 63))) 0) = 0 → post (some (aI 0)) [c0, oC 1 [aI m_nodes, aI m_states, aI m_kinds, aI m_rules, aR 2, aR 3, aR 4, aR 5, aR 6, aR 7, aR 8, aL m_badPairs], c2, c3, c4, c5, c6, c7, c8, c9, c10, c11, c12, c13, c14, c15, c16, c17, c18, c19, c20, c21, c22, c23, c24, c25]) ∧ (¬ (lg_cmp (m_badPairs &&& ((1 : Int64) <<< ((((8 : Int32) * l1) + l2).toInt64 &&& 63))) 0) = 0 → post (some (aI 1)) [c0, oC 1 [aI m_nodes, aI m_states, aI m_kinds, aI m_rules, aR 2, aR 3, aR 4, aR 5, aR 6, aR 7, aR 8, aL m_badPairs], c2, c3, c4, c5, c6, c7, c8, c9, c10, c11, c12, c13, c14, c15, c16, c17, c18, c19, c20, c21, c22, c23, c24, c25])) :
    AW X 0 [some (aR 1), some (aI l1), some (aI l2)] [] [c0, oC 1 [aI m_nodes, aI m_states, aI m_kinds, aI m_rules, aR 2, aR 3, aR 4, aR 5, aR 6, aR 7, aR 8, aL m_badPairs], c2, c3, c4, c5, c6, c7, c8, c9, c10, c11, c12, c13, c14, c15, c16, c17, c18, c19, c20, c21, c22, c23, c24, c25] bc bs := by
  refine aw_aload_n K d_Mo_isBadPair_0 rfl rfl ?_
  refine aw_getf K fd_Mo_43 d_Mo_isBadPair_1 rfl rfl rfl ?_
  refine aw_lconst K d_Mo_isBadPair_4 rfl (v := 1) (by decide) ?_
  refine aw_bipush K d_Mo_isBadPair_5 rfl (v := 8) (by decide) ?_
  refine aw_iload_n K d_Mo_isBadPair_7 rfl rfl ?_
  refine aw_imul K d_Mo_isBadPair_8 rfl ?_
  refine aw_iload_n K d_Mo_isBadPair_9 rfl rfl ?_
  refine aw_iadd K d_Mo_isBadPair_10 rfl ?_
  refine aw_lshl K d_Mo_isBadPair_11 rfl ?_
  refine aw_land K d_Mo_isBadPair_12 rfl ?_
  refine aw_lconst K d_Mo_isBadPair_13 rfl (v := 0) (by decide) ?_
  refine aw_lcmp K d_Mo_isBadPair_14 rfl ?_
  refine aw_if_eq K d_Mo_isBadPair_15 (t := 22) (by decide) rfl (fun q => ?_) (fun q => ?_)
  · replace h := h.1 q
    refine aw_iconst K d_Mo_isBadPair_22 rfl (v := 0) (by decide) ?_
    exact aw_zret K hr d_Mo_isBadPair_23 (Or.inl rfl) h
  · replace h := h.2 q
    refine aw_iconst K d_Mo_isBadPair_18 rfl (v := 1) (by decide) ?_
    refine aw_goto K d_Mo_isBadPair_19 (n := 23) (by decide) ?_
    exact aw_zret K hr d_Mo_isBadPair_23 (Or.inr rfl) h
set_option maxRecDepth 20000 in
theorem x_Mo_addBadPair_0 {X : am_X} {dd bc bs : Nat} (K : am_ok X b_Mo_addBadPair R_Mo 3 dd) {post : Option am_V → List am_C → Prop} (hr : am_rt X none post) {l1 l2 m_nodes m_states m_kinds m_rules : Int32} {m_badPairs : Int64} {c0 c2 c3 c4 c5 c6 c7 c8 c9 c10 c11 c12 c13 c14 c15 c16 c17 c18 c19 c20 c21 c22 c23 c24 c25 : am_C}
    (h : post none [c0, oC 1 [aI m_nodes, aI m_states, aI m_kinds, aI m_rules, aR 2, aR 3, aR 4, aR 5, aR 6, aR 7, aR 8, aL (m_badPairs ||| (((1 : Int64) <<< ((((8 : Int32) * l1) + l2).toInt64 &&& 63)) ||| ((1 : Int64) <<< ((((8 : Int32) * l2) + l1).toInt64 &&& 63))))], c2, c3, c4, c5, c6, c7, c8, c9, c10, c11, c12, c13, c14, c15, c16, c17, c18, c19, c20, c21, c22, c23, c24, c25]) :
    AW X 0 [some (aR 1), some (aI l1), some (aI l2)] [] [c0, oC 1 [aI m_nodes, aI m_states, aI m_kinds, aI m_rules, aR 2, aR 3, aR 4, aR 5, aR 6, aR 7, aR 8, aL m_badPairs], c2, c3, c4, c5, c6, c7, c8, c9, c10, c11, c12, c13, c14, c15, c16, c17, c18, c19, c20, c21, c22, c23, c24, c25] bc bs := by
  refine aw_aload_n K d_Mo_addBadPair_0 rfl rfl ?_
  refine aw_dup K d_Mo_addBadPair_1 rfl (fun _ e => nomatch e) ?_
  refine aw_getf K fd_Mo_43 d_Mo_addBadPair_2 rfl rfl rfl ?_
  refine aw_lconst K d_Mo_addBadPair_5 rfl (v := 1) (by decide) ?_
  refine aw_bipush K d_Mo_addBadPair_6 rfl (v := 8) (by decide) ?_
  refine aw_iload_n K d_Mo_addBadPair_8 rfl rfl ?_
  refine aw_imul K d_Mo_addBadPair_9 rfl ?_
  refine aw_iload_n K d_Mo_addBadPair_10 rfl rfl ?_
  refine aw_iadd K d_Mo_addBadPair_11 rfl ?_
  refine aw_lshl K d_Mo_addBadPair_12 rfl ?_
  refine aw_lconst K d_Mo_addBadPair_13 rfl (v := 1) (by decide) ?_
  refine aw_bipush K d_Mo_addBadPair_14 rfl (v := 8) (by decide) ?_
  refine aw_iload_n K d_Mo_addBadPair_16 rfl rfl ?_
  refine aw_imul K d_Mo_addBadPair_17 rfl ?_
  refine aw_iload_n K d_Mo_addBadPair_18 rfl rfl ?_
  refine aw_iadd K d_Mo_addBadPair_19 rfl ?_
  refine aw_lshl K d_Mo_addBadPair_20 rfl ?_
  refine aw_lor K d_Mo_addBadPair_21 rfl ?_
  refine aw_lor K d_Mo_addBadPair_22 rfl ?_
  refine aw_putf K fp_Mo_43 d_Mo_addBadPair_23 rfl rfl (Nat.le_of_ble_eq_true rfl) (am_fit_l _) (w' := [c0, oC 1 [aI m_nodes, aI m_states, aI m_kinds, aI m_rules, aR 2, aR 3, aR 4, aR 5, aR 6, aR 7, aR 8, aL (m_badPairs ||| (((1 : Int64) <<< ((((8 : Int32) * l1) + l2).toInt64 &&& 63)) ||| ((1 : Int64) <<< ((((8 : Int32) * l2) + l1).toInt64 &&& 63))))], c2, c3, c4, c5, c6, c7, c8, c9, c10, c11, c12, c13, c14, c15, c16, c17, c18, c19, c20, c21, c22, c23, c24, c25]) rfl ?_
  exact aw_vret K hr d_Mo_addBadPair_26 h
set_option maxRecDepth 20000 in
theorem x_Mo_isBadWhole_0 {X : am_X} {dd bc bs : Nat} (K : am_ok X b_Mo_isBadWhole R_Mo 4 dd) {post : Option am_V → List am_C → Prop} (hr : am_rt X (some .boolean) post) {m_nodes m_states m_kinds m_rules v_nodes v_numberings v_size v_symmetries : Int32} {m_badPairs v_form : Int64} {v_states : Nat → Int32} {c0 c2 c3 c4 c5 c6 c7 c8 c9 c10 c11 c12 c13 c14 c15 c16 c17 c18 c19 c20 c21 c24 c25 : am_C}
    (h : AW X 2 [some (aR 1), some (aR 22), some (aI 0), none] [] [c0, oC 1 [aI m_nodes, aI m_states, aI m_kinds, aI m_rules, aR 2, aR 3, aR 4, aR 5, aR 6, aR 7, aR 8, aL m_badPairs], c2, c3, c4, c5, c6, c7, c8, c9, c10, c11, c12, c13, c14, c15, c16, c17, c18, c19, c20, c21, oC 4 [aI v_nodes, aI v_numberings, aR 23, aR 24, aI v_size, aL v_form, aI v_symmetries, aR 25], iC 4 v_states, c24, c25] bc bs) :
    AW X 0 [some (aR 1), some (aR 22), none, none] [] [c0, oC 1 [aI m_nodes, aI m_states, aI m_kinds, aI m_rules, aR 2, aR 3, aR 4, aR 5, aR 6, aR 7, aR 8, aL m_badPairs], c2, c3, c4, c5, c6, c7, c8, c9, c10, c11, c12, c13, c14, c15, c16, c17, c18, c19, c20, c21, oC 4 [aI v_nodes, aI v_numberings, aR 23, aR 24, aI v_size, aL v_form, aI v_symmetries, aR 25], iC 4 v_states, c24, c25] bc bs := by
  refine aw_iconst K d_Mo_isBadWhole_0 rfl (v := 0) (by decide) ?_
  refine aw_istore_n K d_Mo_isBadWhole_1 rfl (by decide) (lv' := [some (aR 1), some (aR 22), some (aI 0), none]) rfl ?_
  exact h
set_option maxRecDepth 20000 in
theorem x_Mo_isBadWhole_2 {X : am_X} {dd bc bs : Nat} (K : am_ok X b_Mo_isBadWhole R_Mo 4 dd) {post : Option am_V → List am_C → Prop} (hr : am_rt X (some .boolean) post) {l2 m_nodes m_states m_kinds m_rules v_nodes v_numberings v_size v_symmetries : Int32} {m_badPairs v_form : Int64} {v_states : Nat → Int32} {c0 c2 c3 c4 c5 c6 c7 c8 c9 c10 c11 c12 c13 c14 c15 c16 c17 c18 c19 c20 c21 c24 c25 : am_C}
    (h : (m_nodes ≤ l2 → post (some (aI 0)) [c0, oC 1 [aI m_nodes, aI m_states, aI m_kinds, aI m_rules, aR 2, aR 3, aR 4, aR 5, aR 6, aR 7, aR 8, aL m_badPairs], c2, c3, c4, c5, c6, c7, c8, c9, c10, c11, c12, c13, c14, c15, c16, c17, c18, c19, c20, c21, oC 4 [aI v_nodes, aI v_numberings, aR 23, aR 24, aI v_size, aL v_form, aI v_symmetries, aR 25], iC 4 v_states, c24, c25]) ∧ (¬ m_nodes ≤ l2 → AW X 14 [some (aR 1), some (aR 22), some (aI l2), some (aI (l2 + (1 : Int32)))] [] [c0, oC 1 [aI m_nodes, aI m_states, aI m_kinds, aI m_rules, aR 2, aR 3, aR 4, aR 5, aR 6, aR 7, aR 8, aL m_badPairs], c2, c3, c4, c5, c6, c7, c8, c9, c10, c11, c12, c13, c14, c15, c16, c17, c18, c19, c20, c21, oC 4 [aI v_nodes, aI v_numberings, aR 23, aR 24, aI v_size, aL v_form, aI v_symmetries, aR 25], iC 4 v_states, c24, c25] bc bs)) :
    AW X 2 [some (aR 1), some (aR 22), some (aI l2), none] [] [c0, oC 1 [aI m_nodes, aI m_states, aI m_kinds, aI m_rules, aR 2, aR 3, aR 4, aR 5, aR 6, aR 7, aR 8, aL m_badPairs], c2, c3, c4, c5, c6, c7, c8, c9, c10, c11, c12, c13, c14, c15, c16, c17, c18, c19, c20, c21, oC 4 [aI v_nodes, aI v_numberings, aR 23, aR 24, aI v_size, aL v_form, aI v_symmetries, aR 25], iC 4 v_states, c24, c25] bc bs := by
  refine aw_iload_n K d_Mo_isBadWhole_2 rfl rfl ?_
  refine aw_aload_n K d_Mo_isBadWhole_3 rfl rfl ?_
  refine aw_getf K fd_Mo_47 d_Mo_isBadWhole_4 rfl rfl rfl ?_
  refine aw_icmp_ge K d_Mo_isBadWhole_7 (t := 55) (by decide) rfl (fun q => ?_) (fun q => ?_)
  · replace h := h.1 q
    refine aw_iconst K d_Mo_isBadWhole_55 rfl (v := 0) (by decide) ?_
    exact aw_zret K hr d_Mo_isBadWhole_56 (Or.inl rfl) h
  · replace h := h.2 q
    refine aw_iload_n K d_Mo_isBadWhole_10 rfl rfl ?_
    refine aw_iconst K d_Mo_isBadWhole_11 rfl (v := 1) (by decide) ?_
    refine aw_iadd K d_Mo_isBadWhole_12 rfl ?_
    refine aw_istore_n K d_Mo_isBadWhole_13 rfl (by decide) (lv' := [some (aR 1), some (aR 22), some (aI l2), some (aI (l2 + (1 : Int32)))]) rfl ?_
    exact h
set_option maxRecDepth 20000 in
theorem x_Mo_isBadWhole_14 {X : am_X} {dd bc bs : Nat} (K : am_ok X b_Mo_isBadWhole R_Mo 4 dd) {post : Option am_V → List am_C → Prop} (hr : am_rt X (some .boolean) post) {sp_Mo_isBadPair : am_S} {dd_Mo_isBadPair : Nat} (c_Mo_isBadPair : Con y_Mo_isBadPair b_Mo_isBadPair 3 (some .boolean) dd_Mo_isBadPair 0 0 false sp_Mo_isBadPair) (hdd_Mo_isBadPair : dd_Mo_isBadPair + 1 ≤ dd) {l2 l3 m_nodes m_states m_kinds m_rules v_nodes v_numberings v_size v_symmetries : Int32} {m_badPairs v_form : Int64} {v_states : Nat → Int32} {c0 c2 c3 c4 c5 c6 c7 c8 c9 c10 c11 c12 c13 c14 c15 c16 c17 c18 c19 c20 c21 c24 c25 : am_C}
    (h : (m_nodes ≤ l3 → AW X 2 [some (aR 1), some (aR 22), some (aI (l2 + 1)), none] [] [c0, oC 1 [aI m_nodes, aI m_states, aI m_kinds, aI m_rules, aR 2, aR 3, aR 4, aR 5, aR 6, aR 7, aR 8, aL m_badPairs], c2, c3, c4, c5, c6, c7, c8, c9, c10, c11, c12, c13, c14, c15, c16, c17, c18, c19, c20, c21, oC 4 [aI v_nodes, aI v_numberings, aR 23, aR 24, aI v_size, aL v_form, aI v_symmetries, aR 25], iC 4 v_states, c24, c25] bc bs) ∧ (¬ m_nodes ≤ l3 → vp_in l2 4 ∧ vp_in l3 4 ∧ sp_Mo_isBadPair [aR 1, aI (v_states l2.toNatClampNeg), aI (v_states l3.toNatClampNeg)] [c0, oC 1 [aI m_nodes, aI m_states, aI m_kinds, aI m_rules, aR 2, aR 3, aR 4, aR 5, aR 6, aR 7, aR 8, aL m_badPairs], c2, c3, c4, c5, c6, c7, c8, c9, c10, c11, c12, c13, c14, c15, c16, c17, c18, c19, c20, c21, oC 4 [aI v_nodes, aI v_numberings, aR 23, aR 24, aI v_size, aL v_form, aI v_symmetries, aR 25], iC 4 v_states, c24, c25] (fun rv w' => AW X 38 [some (aR 1), some (aR 22), some (aI l2), some (aI l3)] (rv.toList ++ []) w' bc bs))) :
    AW X 14 [some (aR 1), some (aR 22), some (aI l2), some (aI l3)] [] [c0, oC 1 [aI m_nodes, aI m_states, aI m_kinds, aI m_rules, aR 2, aR 3, aR 4, aR 5, aR 6, aR 7, aR 8, aL m_badPairs], c2, c3, c4, c5, c6, c7, c8, c9, c10, c11, c12, c13, c14, c15, c16, c17, c18, c19, c20, c21, oC 4 [aI v_nodes, aI v_numberings, aR 23, aR 24, aI v_size, aL v_form, aI v_symmetries, aR 25], iC 4 v_states, c24, c25] bc bs := by
  refine aw_iload_n K d_Mo_isBadWhole_14 rfl rfl ?_
  refine aw_aload_n K d_Mo_isBadWhole_15 rfl rfl ?_
  refine aw_getf K fd_Mo_47 d_Mo_isBadWhole_16 rfl rfl rfl ?_
  refine aw_icmp_ge K d_Mo_isBadWhole_19 (t := 49) (by decide) rfl (fun q => ?_) (fun q => ?_)
  · replace h := h.1 q
    refine aw_iinc K d_Mo_isBadWhole_49 rfl rfl (v := l2 + 1) rfl (by decide) (lv' := [some (aR 1), some (aR 22), some (aI (l2 + 1)), some (aI l3)]) rfl ?_
    refine aw_goto K d_Mo_isBadWhole_52 (n := 2) (by decide) ?_
    refine aw_less [3] rfl ?_
    exact h
  · replace h := h.2 q
    refine aw_aload_n K d_Mo_isBadWhole_22 rfl rfl ?_
    refine aw_aload_n K d_Mo_isBadWhole_23 rfl rfl ?_
    refine aw_getf K fd_Mo_50 d_Mo_isBadWhole_24 rfl rfl rfl ?_
    refine aw_iload_n K d_Mo_isBadWhole_27 rfl rfl ?_
    refine aw_iald K d_Mo_isBadWhole_28 rfl rfl h.1 ?_
    replace h := h.2
    refine aw_aload_n K d_Mo_isBadWhole_29 rfl rfl ?_
    refine aw_getf K fd_Mo_50 d_Mo_isBadWhole_30 rfl rfl rfl ?_
    refine aw_iload_n K d_Mo_isBadWhole_33 rfl rfl ?_
    refine aw_iald K d_Mo_isBadWhole_34 rfl rfl h.1 ?_
    replace h := h.2
    exact aw_callV K c_Mo_isBadPair cb_Mo_54 ci_Mo_isBadPair cs_Mo_isBadPair hdd_Mo_isBadPair (k := 1) rfl rfl d_Mo_isBadWhole_35 rfl (av := [aI (v_states l2.toNatClampNeg), aI (v_states l3.toNatClampNeg)]) rfl (Nat.le_of_ble_eq_true rfl) h (fun rv w' hF => hF)
set_option maxRecDepth 20000 in
theorem x_Mo_isBadWhole_38 {X : am_X} {dd bc bs : Nat} (K : am_ok X b_Mo_isBadWhole R_Mo 4 dd) {post : Option am_V → List am_C → Prop} (hr : am_rt X (some .boolean) post) {l2 l3 s0 m_nodes m_states m_kinds m_rules v_nodes v_numberings v_size v_symmetries : Int32} {m_badPairs v_form : Int64} {v_states : Nat → Int32} {c0 c2 c3 c4 c5 c6 c7 c8 c9 c10 c11 c12 c13 c14 c15 c16 c17 c18 c19 c20 c21 c24 c25 : am_C}
    (h : (s0 = 0 → AW X 14 [some (aR 1), some (aR 22), some (aI l2), some (aI (l3 + 1))] [] [c0, oC 1 [aI m_nodes, aI m_states, aI m_kinds, aI m_rules, aR 2, aR 3, aR 4, aR 5, aR 6, aR 7, aR 8, aL m_badPairs], c2, c3, c4, c5, c6, c7, c8, c9, c10, c11, c12, c13, c14, c15, c16, c17, c18, c19, c20, c21, oC 4 [aI v_nodes, aI v_numberings, aR 23, aR 24, aI v_size, aL v_form, aI v_symmetries, aR 25], iC 4 v_states, c24, c25] bc bs) ∧ (¬ s0 = 0 → post (some (aI 1)) [c0, oC 1 [aI m_nodes, aI m_states, aI m_kinds, aI m_rules, aR 2, aR 3, aR 4, aR 5, aR 6, aR 7, aR 8, aL m_badPairs], c2, c3, c4, c5, c6, c7, c8, c9, c10, c11, c12, c13, c14, c15, c16, c17, c18, c19, c20, c21, oC 4 [aI v_nodes, aI v_numberings, aR 23, aR 24, aI v_size, aL v_form, aI v_symmetries, aR 25], iC 4 v_states, c24, c25])) :
    AW X 38 [some (aR 1), some (aR 22), some (aI l2), some (aI l3)] [aI s0] [c0, oC 1 [aI m_nodes, aI m_states, aI m_kinds, aI m_rules, aR 2, aR 3, aR 4, aR 5, aR 6, aR 7, aR 8, aL m_badPairs], c2, c3, c4, c5, c6, c7, c8, c9, c10, c11, c12, c13, c14, c15, c16, c17, c18, c19, c20, c21, oC 4 [aI v_nodes, aI v_numberings, aR 23, aR 24, aI v_size, aL v_form, aI v_symmetries, aR 25], iC 4 v_states, c24, c25] bc bs := by
  refine aw_if_eq K d_Mo_isBadWhole_38 (t := 43) (by decide) rfl (fun q => ?_) (fun q => ?_)
  · replace h := h.1 q
    refine aw_iinc K d_Mo_isBadWhole_43 rfl rfl (v := l3 + 1) rfl (by decide) (lv' := [some (aR 1), some (aR 22), some (aI l2), some (aI (l3 + 1))]) rfl ?_
    refine aw_goto K d_Mo_isBadWhole_46 (n := 14) (by decide) ?_
    exact h
  · replace h := h.2 q
    refine aw_iconst K d_Mo_isBadWhole_41 rfl (v := 1) (by decide) ?_
    exact aw_zret K hr d_Mo_isBadWhole_42 (Or.inr rfl) h
set_option maxRecDepth 20000 in
theorem x_St_slotsFor_0 {X : am_X} {dd bc bs : Nat} (K : am_ok X b_St_slotsFor R_St 2 dd) {post : Option am_V → List am_C → Prop} (hr : am_rt X (some .int) post) {l0 : Int32} {c0 c1 c2 c3 c4 c5 c6 c7 c8 c9 c10 c11 c12 c13 c14 c15 c16 c17 c18 c19 c20 c21 c22 c23 c24 c25 : am_C}
    (h : AW X 2 [some (aI l0), some (aI 2)] [] [c0, c1, c2, c3, c4, c5, c6, c7, c8, c9, c10, c11, c12, c13, c14, c15, c16, c17, c18, c19, c20, c21, c22, c23, c24, c25] bc bs) :
    AW X 0 [some (aI l0), none] [] [c0, c1, c2, c3, c4, c5, c6, c7, c8, c9, c10, c11, c12, c13, c14, c15, c16, c17, c18, c19, c20, c21, c22, c23, c24, c25] bc bs := by
  refine aw_iconst K d_St_slotsFor_0 rfl (v := 2) (by decide) ?_
  refine aw_istore_n K d_St_slotsFor_1 rfl (by decide) (lv' := [some (aI l0), some (aI 2)]) rfl ?_
  exact h
set_option maxRecDepth 20000 in
theorem x_St_slotsFor_2 {X : am_X} {dd bc bs : Nat} (K : am_ok X b_St_slotsFor R_St 2 dd) {post : Option am_V → List am_C → Prop} (hr : am_rt X (some .int) post) {l0 l1 : Int32} {c0 c1 c2 c3 c4 c5 c6 c7 c8 c9 c10 c11 c12 c13 c14 c15 c16 c17 c18 c19 c20 c21 c22 c23 c24 c25 : am_C}
    (h : (((2 : Int32) * l0) ≤ l1 → post (some (aI l1)) [c0, c1, c2, c3, c4, c5, c6, c7, c8, c9, c10, c11, c12, c13, c14, c15, c16, c17, c18, c19, c20, c21, c22, c23, c24, c25]) ∧ (¬ ((2 : Int32) * l0) ≤ l1 → AW X 2 [some (aI l0), some (aI (l1 * (2 : Int32)))] [] [c0, c1, c2, c3, c4, c5, c6, c7, c8, c9, c10, c11, c12, c13, c14, c15, c16, c17, c18, c19, c20, c21, c22, c23, c24, c25] bc bs)) :
    AW X 2 [some (aI l0), some (aI l1)] [] [c0, c1, c2, c3, c4, c5, c6, c7, c8, c9, c10, c11, c12, c13, c14, c15, c16, c17, c18, c19, c20, c21, c22, c23, c24, c25] bc bs := by
  refine aw_iload_n K d_St_slotsFor_2 rfl rfl ?_
  refine aw_iconst K d_St_slotsFor_3 rfl (v := 2) (by decide) ?_
  refine aw_iload_n K d_St_slotsFor_4 rfl rfl ?_
  refine aw_imul K d_St_slotsFor_5 rfl ?_
  refine aw_icmp_ge K d_St_slotsFor_6 (t := 16) (by decide) rfl (fun q => ?_) (fun q => ?_)
  · replace h := h.1 q
    refine aw_iload_n K d_St_slotsFor_16 rfl rfl ?_
    exact aw_iret K hr d_St_slotsFor_17 h
  · replace h := h.2 q
    refine aw_iload_n K d_St_slotsFor_9 rfl rfl ?_
    refine aw_iconst K d_St_slotsFor_10 rfl (v := 2) (by decide) ?_
    refine aw_imul K d_St_slotsFor_11 rfl ?_
    refine aw_istore_n K d_St_slotsFor_12 rfl (by decide) (lv' := [some (aI l0), some (aI (l1 * (2 : Int32)))]) rfl ?_
    refine aw_goto K d_St_slotsFor_13 (n := 2) (by decide) ?_
    exact h
set_option maxRecDepth 20000 in
theorem x_St_has_0 {X : am_X} {dd bc bs : Nat} (K : am_ok X b_St_has R_St 2 dd) {post : Option am_V → List am_C → Prop} (hr : am_rt X (some .boolean) post) {l1 s_size : Int32} {c0 c1 c2 c3 c4 c5 c6 c7 c8 c10 c11 c12 c13 c14 c15 c16 c17 c18 c19 c20 c21 c22 c23 c24 c25 : am_C}
    (h : (l1 < 0 → post (some (aI 0)) [c0, c1, c2, c3, c4, c5, c6, c7, c8, oC 2 [aI s_size, aR 10, aR 11, aR 12, aR 13, aR 14, aR 15, aR 16], c10, c11, c12, c13, c14, c15, c16, c17, c18, c19, c20, c21, c22, c23, c24, c25]) ∧ (¬ l1 < 0 → (s_size ≤ l1 → post (some (aI 0)) [c0, c1, c2, c3, c4, c5, c6, c7, c8, oC 2 [aI s_size, aR 10, aR 11, aR 12, aR 13, aR 14, aR 15, aR 16], c10, c11, c12, c13, c14, c15, c16, c17, c18, c19, c20, c21, c22, c23, c24, c25]) ∧ (¬ s_size ≤ l1 → post (some (aI 1)) [c0, c1, c2, c3, c4, c5, c6, c7, c8, oC 2 [aI s_size, aR 10, aR 11, aR 12, aR 13, aR 14, aR 15, aR 16], c10, c11, c12, c13, c14, c15, c16, c17, c18, c19, c20, c21, c22, c23, c24, c25]))) :
    AW X 0 [some (aR 9), some (aI l1)] [] [c0, c1, c2, c3, c4, c5, c6, c7, c8, oC 2 [aI s_size, aR 10, aR 11, aR 12, aR 13, aR 14, aR 15, aR 16], c10, c11, c12, c13, c14, c15, c16, c17, c18, c19, c20, c21, c22, c23, c24, c25] bc bs := by
  refine aw_iload_n K d_St_has_0 rfl rfl ?_
  refine aw_if_lt K d_St_has_1 (t := 16) (by decide) rfl (fun q => ?_) (fun q => ?_)
  · replace h := h.1 q
    refine aw_iconst K d_St_has_16 rfl (v := 0) (by decide) ?_
    exact aw_zret K hr d_St_has_17 (Or.inl rfl) h
  · replace h := h.2 q
    refine aw_iload_n K d_St_has_4 rfl rfl ?_
    refine aw_aload_n K d_St_has_5 rfl rfl ?_
    refine aw_getf K fd_St_9 d_St_has_6 rfl rfl rfl ?_
    refine aw_icmp_ge K d_St_has_9 (t := 16) (by decide) rfl (fun q => ?_) (fun q => ?_)
    · replace h := h.1 q
      refine aw_iconst K d_St_has_16 rfl (v := 0) (by decide) ?_
      exact aw_zret K hr d_St_has_17 (Or.inl rfl) h
    · replace h := h.2 q
      refine aw_iconst K d_St_has_12 rfl (v := 1) (by decide) ?_
      refine aw_goto K d_St_has_13 (n := 17) (by decide) ?_
      exact aw_zret K hr d_St_has_17 (Or.inr rfl) h
set_option maxRecDepth 20000 in
theorem x_St_isFull_0 {X : am_X} {dd bc bs : Nat} (K : am_ok X b_St_isFull R_St 1 dd) {post : Option am_V → List am_C → Prop} (hr : am_rt X (some .boolean) post) {s_size : Int32} {s_forms : Nat → Int64} {room : Nat} {c0 c1 c2 c3 c4 c5 c6 c7 c8 c11 c12 c13 c14 c15 c16 c17 c18 c19 c20 c21 c22 c23 c24 c25 : am_C}
    (h : (s_size < (nI room) → post (some (aI 0)) [c0, c1, c2, c3, c4, c5, c6, c7, c8, oC 2 [aI s_size, aR 10, aR 11, aR 12, aR 13, aR 14, aR 15, aR 16], jC room s_forms, c11, c12, c13, c14, c15, c16, c17, c18, c19, c20, c21, c22, c23, c24, c25]) ∧ (¬ s_size < (nI room) → post (some (aI 1)) [c0, c1, c2, c3, c4, c5, c6, c7, c8, oC 2 [aI s_size, aR 10, aR 11, aR 12, aR 13, aR 14, aR 15, aR 16], jC room s_forms, c11, c12, c13, c14, c15, c16, c17, c18, c19, c20, c21, c22, c23, c24, c25])) :
    AW X 0 [some (aR 9)] [] [c0, c1, c2, c3, c4, c5, c6, c7, c8, oC 2 [aI s_size, aR 10, aR 11, aR 12, aR 13, aR 14, aR 15, aR 16], jC room s_forms, c11, c12, c13, c14, c15, c16, c17, c18, c19, c20, c21, c22, c23, c24, c25] bc bs := by
  refine aw_aload_n K d_St_isFull_0 rfl rfl ?_
  refine aw_getf K fd_St_9 d_St_isFull_1 rfl rfl rfl ?_
  refine aw_aload_n K d_St_isFull_4 rfl rfl ?_
  refine aw_getf K fd_St_15 d_St_isFull_5 rfl rfl rfl ?_
  refine aw_llen K d_St_isFull_8 rfl rfl ?_
  refine aw_icmp_lt K d_St_isFull_9 (t := 16) (by decide) rfl (fun q => ?_) (fun q => ?_)
  · replace h := h.1 q
    refine aw_iconst K d_St_isFull_16 rfl (v := 0) (by decide) ?_
    exact aw_zret K hr d_St_isFull_17 (Or.inl rfl) h
  · replace h := h.2 q
    refine aw_iconst K d_St_isFull_12 rfl (v := 1) (by decide) ?_
    refine aw_goto K d_St_isFull_13 (n := 17) (by decide) ?_
    exact aw_zret K hr d_St_isFull_17 (Or.inr rfl) h
set_option maxRecDepth 20000 in
theorem x_St_clear_0 {X : am_X} {dd bc bs : Nat} (K : am_ok X b_St_clear R_St 1 dd) {post : Option am_V → List am_C → Prop} (hr : am_rt X none post) {sp_Ar_fill : am_S} {dd_Ar_fill : Nat} (c_Ar_fill : Con y_Ar_fill b_Ar_fill 4 none dd_Ar_fill 0 0 false sp_Ar_fill) (hdd_Ar_fill : dd_Ar_fill + 1 ≤ dd) {s_size : Int32} {c0 c1 c2 c3 c4 c5 c6 c7 c8 c10 c11 c12 c13 c14 c15 c16 c17 c18 c19 c20 c21 c22 c23 c24 c25 : am_C}
    (h : (s_size ≤ 0 → post none [c0, c1, c2, c3, c4, c5, c6, c7, c8, oC 2 [aI s_size, aR 10, aR 11, aR 12, aR 13, aR 14, aR 15, aR 16], c10, c11, c12, c13, c14, c15, c16, c17, c18, c19, c20, c21, c22, c23, c24, c25]) ∧ (¬ s_size ≤ 0 → sp_Ar_fill [aR 16, aI 0] [c0, c1, c2, c3, c4, c5, c6, c7, c8, oC 2 [aI s_size, aR 10, aR 11, aR 12, aR 13, aR 14, aR 15, aR 16], c10, c11, c12, c13, c14, c15, c16, c17, c18, c19, c20, c21, c22, c23, c24, c25] (fun rv w' => AW X 15 [some (aR 9)] (rv.toList ++ []) w' bc bs))) :
    AW X 0 [some (aR 9)] [] [c0, c1, c2, c3, c4, c5, c6, c7, c8, oC 2 [aI s_size, aR 10, aR 11, aR 12, aR 13, aR 14, aR 15, aR 16], c10, c11, c12, c13, c14, c15, c16, c17, c18, c19, c20, c21, c22, c23, c24, c25] bc bs := by
  refine aw_aload_n K d_St_clear_0 rfl rfl ?_
  refine aw_getf K fd_St_9 d_St_clear_1 rfl rfl rfl ?_
  refine aw_if_le K d_St_clear_4 (t := 20) (by decide) rfl (fun q => ?_) (fun q => ?_)
  · replace h := h.1 q
    exact aw_vret K hr d_St_clear_20 h
  · replace h := h.2 q
    refine aw_aload_n K d_St_clear_7 rfl rfl ?_
    refine aw_getf K fd_St_39 d_St_clear_8 rfl rfl rfl ?_
    refine aw_iconst K d_St_clear_11 rfl (v := 0) (by decide) ?_
    exact aw_callS K c_Ar_fill cb_St_42 ct_Ar_fill hdd_Ar_fill d_St_clear_12 rfl (av := [aR 16, aI 0]) rfl (Nat.le_of_ble_eq_true rfl) h (fun rv w' hF => hF)
set_option maxRecDepth 20000 in
theorem x_St_clear_15 {X : am_X} {dd bc bs : Nat} (K : am_ok X b_St_clear R_St 1 dd) {post : Option am_V → List am_C → Prop} (hr : am_rt X none post) {s_size : Int32} {c0 c1 c2 c3 c4 c5 c6 c7 c8 c10 c11 c12 c13 c14 c15 c16 c17 c18 c19 c20 c21 c22 c23 c24 c25 : am_C}
    (h : post none [c0, c1, c2, c3, c4, c5, c6, c7, c8, oC 2 [aI 0, aR 10, aR 11, aR 12, aR 13, aR 14, aR 15, aR 16], c10, c11, c12, c13, c14, c15, c16, c17, c18, c19, c20, c21, c22, c23, c24, c25]) :
    AW X 15 [some (aR 9)] [] [c0, c1, c2, c3, c4, c5, c6, c7, c8, oC 2 [aI s_size, aR 10, aR 11, aR 12, aR 13, aR 14, aR 15, aR 16], c10, c11, c12, c13, c14, c15, c16, c17, c18, c19, c20, c21, c22, c23, c24, c25] bc bs := by
  refine aw_aload_n K d_St_clear_15 rfl rfl ?_
  refine aw_iconst K d_St_clear_16 rfl (v := 0) (by decide) ?_
  refine aw_putf K fp_St_9 d_St_clear_17 rfl rfl (Nat.le_of_ble_eq_true rfl) (am_fit_i _) (w' := [c0, c1, c2, c3, c4, c5, c6, c7, c8, oC 2 [aI 0, aR 10, aR 11, aR 12, aR 13, aR 14, aR 15, aR 16], c10, c11, c12, c13, c14, c15, c16, c17, c18, c19, c20, c21, c22, c23, c24, c25]) rfl ?_
  exact aw_vret K hr d_St_clear_20 h
set_option maxRecDepth 20000 in
theorem x_St_slotOf_0 {X : am_X} {dd bc bs : Nat} (K : am_ok X b_St_slotOf R_St 6 dd) {post : Option am_V → List am_C → Prop} (hr : am_rt X (some .int) post) {s_size : Int32} {l1 : Int64} {s_slots : Nat → Int32} {s_forms : Nat → Int64} {room nsl : Nat} {c0 c1 c2 c3 c4 c5 c6 c7 c8 c11 c12 c13 c14 c15 c17 c18 c19 c20 c21 c22 c23 c24 c25 : am_C}
    (h : AW X 24 [some (aR 9), some (aL l1), none, some (aI ((nI nsl) - (1 : Int32))), some (aI (((((l1 * (-7046029254386353131 : Int64)).toUInt64 >>> ((40 : Int32).toInt64.toUInt64 &&& Int64.toUInt64 63)).toInt64).toInt32) &&& ((nI nsl) - (1 : Int32)))), some (aI 0)] [] [c0, c1, c2, c3, c4, c5, c6, c7, c8, oC 2 [aI s_size, aR 10, aR 11, aR 12, aR 13, aR 14, aR 15, aR 16], jC room s_forms, c11, c12, c13, c14, c15, iC nsl s_slots, c17, c18, c19, c20, c21, c22, c23, c24, c25] bc bs) :
    AW X 0 [some (aR 9), some (aL l1), none, none, none, none] [] [c0, c1, c2, c3, c4, c5, c6, c7, c8, oC 2 [aI s_size, aR 10, aR 11, aR 12, aR 13, aR 14, aR 15, aR 16], jC room s_forms, c11, c12, c13, c14, c15, iC nsl s_slots, c17, c18, c19, c20, c21, c22, c23, c24, c25] bc bs := by
  refine aw_aload_n K d_St_slotOf_0 rfl rfl ?_
  refine aw_getf K fd_St_39 d_St_slotOf_1 rfl rfl rfl ?_
  refine aw_ilen K d_St_slotOf_4 rfl rfl ?_
  refine aw_iconst K d_St_slotOf_5 rfl (v := 1) (by decide) ?_
  refine aw_isub K d_St_slotOf_6 rfl ?_
  refine aw_istore_n K d_St_slotOf_7 rfl (by decide) (lv' := [some (aR 9), some (aL l1), none, some (aI ((nI nsl) - (1 : Int32))), none, none]) rfl ?_
  refine aw_lload_n K d_St_slotOf_8 rfl rfl ?_
  refine aw_ldc2 K d_St_slotOf_9 rfl (v := (-7046029254386353131)) wd_St_48 ?_
  refine aw_lmul K d_St_slotOf_12 rfl ?_
  refine aw_bipush K d_St_slotOf_13 rfl (v := 40) (by decide) ?_
  refine aw_lushr K d_St_slotOf_15 rfl ?_
  refine aw_l2i K d_St_slotOf_16 rfl ?_
  refine aw_iload_n K d_St_slotOf_17 rfl rfl ?_
  refine aw_iand K d_St_slotOf_18 rfl ?_
  refine aw_istore K d_St_slotOf_19 rfl (by decide) (lv' := [some (aR 9), some (aL l1), none, some (aI ((nI nsl) - (1 : Int32))), some (aI (((((l1 * (-7046029254386353131 : Int64)).toUInt64 >>> ((40 : Int32).toInt64.toUInt64 &&& Int64.toUInt64 63)).toInt64).toInt32) &&& ((nI nsl) - (1 : Int32)))), none]) rfl ?_
  refine aw_iconst K d_St_slotOf_21 rfl (v := 0) (by decide) ?_
  refine aw_istore K d_St_slotOf_22 rfl (by decide) (lv' := [some (aR 9), some (aL l1), none, some (aI ((nI nsl) - (1 : Int32))), some (aI (((((l1 * (-7046029254386353131 : Int64)).toUInt64 >>> ((40 : Int32).toInt64.toUInt64 &&& Int64.toUInt64 63)).toInt64).toInt32) &&& ((nI nsl) - (1 : Int32)))), some (aI 0)]) rfl ?_
  exact h
set_option maxRecDepth 20000 in
theorem x_St_slotOf_24 {X : am_X} {dd bc bs : Nat} (K : am_ok X b_St_slotOf R_St 6 dd) {post : Option am_V → List am_C → Prop} (hr : am_rt X (some .int) post) {l3 l4 l5 s_size : Int32} {l1 : Int64} {s_slots : Nat → Int32} {s_forms : Nat → Int64} {room nsl : Nat} {c0 c1 c2 c3 c4 c5 c6 c7 c8 c11 c12 c13 c14 c15 c17 c18 c19 c20 c21 c22 c23 c24 c25 : am_C}
    (h : (l3 ≤ l5 → post (some (aI l4)) [c0, c1, c2, c3, c4, c5, c6, c7, c8, oC 2 [aI s_size, aR 10, aR 11, aR 12, aR 13, aR 14, aR 15, aR 16], jC room s_forms, c11, c12, c13, c14, c15, iC nsl s_slots, c17, c18, c19, c20, c21, c22, c23, c24, c25]) ∧ (¬ l3 ≤ l5 → vp_in l4 nsl ∧ ((s_slots l4.toNatClampNeg) = 0 → post (some (aI l4)) [c0, c1, c2, c3, c4, c5, c6, c7, c8, oC 2 [aI s_size, aR 10, aR 11, aR 12, aR 13, aR 14, aR 15, aR 16], jC room s_forms, c11, c12, c13, c14, c15, iC nsl s_slots, c17, c18, c19, c20, c21, c22, c23, c24, c25]) ∧ (¬ (s_slots l4.toNatClampNeg) = 0 → vp_in l4 nsl ∧ vp_in ((s_slots l4.toNatClampNeg) - (1 : Int32)) room ∧ ((lg_cmp (s_forms ((s_slots l4.toNatClampNeg) - (1 : Int32)).toNatClampNeg) l1) = 0 → post (some (aI l4)) [c0, c1, c2, c3, c4, c5, c6, c7, c8, oC 2 [aI s_size, aR 10, aR 11, aR 12, aR 13, aR 14, aR 15, aR 16], jC room s_forms, c11, c12, c13, c14, c15, iC nsl s_slots, c17, c18, c19, c20, c21, c22, c23, c24, c25]) ∧ (¬ (lg_cmp (s_forms ((s_slots l4.toNatClampNeg) - (1 : Int32)).toNatClampNeg) l1) = 0 → AW X 24 [some (aR 9), some (aL l1), none, some (aI l3), some (aI ((l4 + (1 : Int32)) &&& l3)), some (aI (l5 + 1))] [] [c0, c1, c2, c3, c4, c5, c6, c7, c8, oC 2 [aI s_size, aR 10, aR 11, aR 12, aR 13, aR 14, aR 15, aR 16], jC room s_forms, c11, c12, c13, c14, c15, iC nsl s_slots, c17, c18, c19, c20, c21, c22, c23, c24, c25] bc bs)))) :
    AW X 24 [some (aR 9), some (aL l1), none, some (aI l3), some (aI l4), some (aI l5)] [] [c0, c1, c2, c3, c4, c5, c6, c7, c8, oC 2 [aI s_size, aR 10, aR 11, aR 12, aR 13, aR 14, aR 15, aR 16], jC room s_forms, c11, c12, c13, c14, c15, iC nsl s_slots, c17, c18, c19, c20, c21, c22, c23, c24, c25] bc bs := by
  refine aw_iload K d_St_slotOf_24 rfl rfl ?_
  refine aw_iload_n K d_St_slotOf_26 rfl rfl ?_
  refine aw_icmp_ge K d_St_slotOf_27 (t := 73) (by decide) rfl (fun q => ?_) (fun q => ?_)
  · replace h := h.1 q
    refine aw_iload K d_St_slotOf_73 rfl rfl ?_
    exact aw_iret K hr d_St_slotOf_75 h
  · replace h := h.2 q
    refine aw_aload_n K d_St_slotOf_30 rfl rfl ?_
    refine aw_getf K fd_St_39 d_St_slotOf_31 rfl rfl rfl ?_
    refine aw_iload K d_St_slotOf_34 rfl rfl ?_
    refine aw_iald K d_St_slotOf_36 rfl rfl h.1 ?_
    replace h := h.2
    refine aw_if_eq K d_St_slotOf_37 (t := 73) (by decide) rfl (fun q => ?_) (fun q => ?_)
    · replace h := h.1 q
      refine aw_iload K d_St_slotOf_73 rfl rfl ?_
      exact aw_iret K hr d_St_slotOf_75 h
    · replace h := h.2 q
      refine aw_aload_n K d_St_slotOf_40 rfl rfl ?_
      refine aw_getf K fd_St_15 d_St_slotOf_41 rfl rfl rfl ?_
      refine aw_aload_n K d_St_slotOf_44 rfl rfl ?_
      refine aw_getf K fd_St_39 d_St_slotOf_45 rfl rfl rfl ?_
      refine aw_iload K d_St_slotOf_48 rfl rfl ?_
      refine aw_iald K d_St_slotOf_50 rfl rfl h.1 ?_
      replace h := h.2
      refine aw_iconst K d_St_slotOf_51 rfl (v := 1) (by decide) ?_
      refine aw_isub K d_St_slotOf_52 rfl ?_
      refine aw_lald K d_St_slotOf_53 rfl rfl h.1 ?_
      replace h := h.2
      refine aw_lload_n K d_St_slotOf_54 rfl rfl ?_
      refine aw_lcmp K d_St_slotOf_55 rfl ?_
      refine aw_if_eq K d_St_slotOf_56 (t := 73) (by decide) rfl (fun q => ?_) (fun q => ?_)
      · replace h := h.1 q
        refine aw_iload K d_St_slotOf_73 rfl rfl ?_
        exact aw_iret K hr d_St_slotOf_75 h
      · replace h := h.2 q
        refine aw_iload K d_St_slotOf_59 rfl rfl ?_
        refine aw_iconst K d_St_slotOf_61 rfl (v := 1) (by decide) ?_
        refine aw_iadd K d_St_slotOf_62 rfl ?_
        refine aw_iload_n K d_St_slotOf_63 rfl rfl ?_
        refine aw_iand K d_St_slotOf_64 rfl ?_
        refine aw_istore K d_St_slotOf_65 rfl (by decide) (lv' := [some (aR 9), some (aL l1), none, some (aI l3), some (aI ((l4 + (1 : Int32)) &&& l3)), some (aI l5)]) rfl ?_
        refine aw_iinc K d_St_slotOf_67 rfl rfl (v := l5 + 1) rfl (by decide) (lv' := [some (aR 9), some (aL l1), none, some (aI l3), some (aI ((l4 + (1 : Int32)) &&& l3)), some (aI (l5 + 1))]) rfl ?_
        refine aw_goto K d_St_slotOf_70 (n := 24) (by decide) ?_
        exact h
set_option maxRecDepth 20000 in
theorem x_St_isTaken_0 {X : am_X} {dd bc bs : Nat} (K : am_ok X b_St_isTaken R_St 2 dd) {post : Option am_V → List am_C → Prop} (hr : am_rt X (some .boolean) post) {l1 s_size : Int32} {s_slots : Nat → Int32} {nsl : Nat} {c0 c1 c2 c3 c4 c5 c6 c7 c8 c10 c11 c12 c13 c14 c15 c17 c18 c19 c20 c21 c22 c23 c24 c25 : am_C}
    (h : vp_in l1 nsl ∧ ((s_slots l1.toNatClampNeg) = 0 → post (some (aI 0)) [c0, c1, c2, c3, c4, c5, c6, c7, c8, oC 2 [aI s_size, aR 10, aR 11, aR 12, aR 13, aR 14, aR 15, aR 16], c10, c11, c12, c13, c14, c15, iC nsl s_slots, c17, c18, c19, c20, c21, c22, c23, c24, c25]) ∧ (¬ (s_slots l1.toNatClampNeg) = 0 → post (some (aI 1)) [c0, c1, c2, c3, c4, c5, c6, c7, c8, oC 2 [aI s_size, aR 10, aR 11, aR 12, aR 13, aR 14, aR 15, aR 16], c10, c11, c12, c13, c14, c15, iC nsl s_slots, c17, c18, c19, c20, c21, c22, c23, c24, c25])) :
    AW X 0 [some (aR 9), some (aI l1)] [] [c0, c1, c2, c3, c4, c5, c6, c7, c8, oC 2 [aI s_size, aR 10, aR 11, aR 12, aR 13, aR 14, aR 15, aR 16], c10, c11, c12, c13, c14, c15, iC nsl s_slots, c17, c18, c19, c20, c21, c22, c23, c24, c25] bc bs := by
  refine aw_aload_n K d_St_isTaken_0 rfl rfl ?_
  refine aw_getf K fd_St_39 d_St_isTaken_1 rfl rfl rfl ?_
  refine aw_iload_n K d_St_isTaken_4 rfl rfl ?_
  refine aw_iald K d_St_isTaken_5 rfl rfl h.1 ?_
  replace h := h.2
  refine aw_if_eq K d_St_isTaken_6 (t := 13) (by decide) rfl (fun q => ?_) (fun q => ?_)
  · replace h := h.1 q
    refine aw_iconst K d_St_isTaken_13 rfl (v := 0) (by decide) ?_
    exact aw_zret K hr d_St_isTaken_14 (Or.inl rfl) h
  · replace h := h.2 q
    refine aw_iconst K d_St_isTaken_9 rfl (v := 1) (by decide) ?_
    refine aw_goto K d_St_isTaken_10 (n := 14) (by decide) ?_
    exact aw_zret K hr d_St_isTaken_14 (Or.inr rfl) h
set_option maxRecDepth 20000 in
theorem x_St_greatestLevel_0 {X : am_X} {dd bc bs : Nat} (K : am_ok X b_St_greatestLevel R_St 1 dd) {post : Option am_V → List am_C → Prop} (hr : am_rt X (some .int) post) {s_size : Int32} {s_levels : Nat → Int32} {room : Nat} {c0 c1 c2 c3 c4 c5 c6 c7 c8 c10 c12 c13 c14 c15 c16 c17 c18 c19 c20 c21 c22 c23 c24 c25 : am_C}
    (h : (s_size ≤ 0 → post (some (aI ((-1)))) [c0, c1, c2, c3, c4, c5, c6, c7, c8, oC 2 [aI s_size, aR 10, aR 11, aR 12, aR 13, aR 14, aR 15, aR 16], c10, iC room s_levels, c12, c13, c14, c15, c16, c17, c18, c19, c20, c21, c22, c23, c24, c25]) ∧ (¬ s_size ≤ 0 → vp_in (s_size - (1 : Int32)) room ∧ post (some (aI (s_levels (s_size - (1 : Int32)).toNatClampNeg))) [c0, c1, c2, c3, c4, c5, c6, c7, c8, oC 2 [aI s_size, aR 10, aR 11, aR 12, aR 13, aR 14, aR 15, aR 16], c10, iC room s_levels, c12, c13, c14, c15, c16, c17, c18, c19, c20, c21, c22, c23, c24, c25])) :
    AW X 0 [some (aR 9)] [] [c0, c1, c2, c3, c4, c5, c6, c7, c8, oC 2 [aI s_size, aR 10, aR 11, aR 12, aR 13, aR 14, aR 15, aR 16], c10, iC room s_levels, c12, c13, c14, c15, c16, c17, c18, c19, c20, c21, c22, c23, c24, c25] bc bs := by
  refine aw_aload_n K d_St_greatestLevel_0 rfl rfl ?_
  refine aw_getf K fd_St_9 d_St_greatestLevel_1 rfl rfl rfl ?_
  refine aw_if_le K d_St_greatestLevel_4 (t := 21) (by decide) rfl (fun q => ?_) (fun q => ?_)
  · replace h := h.1 q
    refine aw_iconst K d_St_greatestLevel_21 rfl (v := (-1)) (by decide) ?_
    exact aw_iret K hr d_St_greatestLevel_22 h
  · replace h := h.2 q
    refine aw_aload_n K d_St_greatestLevel_7 rfl rfl ?_
    refine aw_getf K fd_St_19 d_St_greatestLevel_8 rfl rfl rfl ?_
    refine aw_aload_n K d_St_greatestLevel_11 rfl rfl ?_
    refine aw_getf K fd_St_9 d_St_greatestLevel_12 rfl rfl rfl ?_
    refine aw_iconst K d_St_greatestLevel_15 rfl (v := 1) (by decide) ?_
    refine aw_isub K d_St_greatestLevel_16 rfl ?_
    refine aw_iald K d_St_greatestLevel_17 rfl rfl h.1 ?_
    replace h := h.2
    refine aw_goto K d_St_greatestLevel_18 (n := 22) (by decide) ?_
    exact aw_iret K hr d_St_greatestLevel_22 h
set_option maxRecDepth 20000 in
theorem x_St_beforeLast_0 {X : am_X} {dd bc bs : Nat} (K : am_ok X b_St_beforeLast R_St 4 dd) {post : Option am_V → List am_C → Prop} (hr : am_rt X (some .int) post) {l1 s_size : Int32} {s_levels s_origins : Nat → Int32} {room : Nat} {c0 c1 c2 c3 c4 c5 c6 c7 c8 c10 c13 c14 c15 c16 c17 c18 c19 c20 c21 c22 c23 c24 c25 : am_C}
    (h : AW X 9 [some (aR 9), some (aI l1), some (aI (s_size - (1 : Int32))), some (aI 0)] [] [c0, c1, c2, c3, c4, c5, c6, c7, c8, oC 2 [aI s_size, aR 10, aR 11, aR 12, aR 13, aR 14, aR 15, aR 16], c10, iC room s_levels, iC room s_origins, c13, c14, c15, c16, c17, c18, c19, c20, c21, c22, c23, c24, c25] bc bs) :
    AW X 0 [some (aR 9), some (aI l1), none, none] [] [c0, c1, c2, c3, c4, c5, c6, c7, c8, oC 2 [aI s_size, aR 10, aR 11, aR 12, aR 13, aR 14, aR 15, aR 16], c10, iC room s_levels, iC room s_origins, c13, c14, c15, c16, c17, c18, c19, c20, c21, c22, c23, c24, c25] bc bs := by
  refine aw_aload_n K d_St_beforeLast_0 rfl rfl ?_
  refine aw_getf K fd_St_9 d_St_beforeLast_1 rfl rfl rfl ?_
  refine aw_iconst K d_St_beforeLast_4 rfl (v := 1) (by decide) ?_
  refine aw_isub K d_St_beforeLast_5 rfl ?_
  refine aw_istore_n K d_St_beforeLast_6 rfl (by decide) (lv' := [some (aR 9), some (aI l1), some (aI (s_size - (1 : Int32))), none]) rfl ?_
  refine aw_iconst K d_St_beforeLast_7 rfl (v := 0) (by decide) ?_
  refine aw_istore_n K d_St_beforeLast_8 rfl (by decide) (lv' := [some (aR 9), some (aI l1), some (aI (s_size - (1 : Int32))), some (aI 0)]) rfl ?_
  exact h
set_option maxRecDepth 20000 in
theorem x_St_beforeLast_9 {X : am_X} {dd bc bs : Nat} (K : am_ok X b_St_beforeLast R_St 4 dd) {post : Option am_V → List am_C → Prop} (hr : am_rt X (some .int) post) {sp_St_has : am_S} {dd_St_has : Nat} (c_St_has : Con y_St_has b_St_has 2 (some .boolean) dd_St_has 0 0 false sp_St_has) (hdd_St_has : dd_St_has + 1 ≤ dd) {l1 l2 l3 s_size : Int32} {s_levels s_origins : Nat → Int32} {room : Nat} {c0 c1 c2 c3 c4 c5 c6 c7 c8 c10 c13 c14 c15 c16 c17 c18 c19 c20 c21 c22 c23 c24 c25 : am_C}
    (h : (s_size ≤ l3 → post (some (aI l2)) [c0, c1, c2, c3, c4, c5, c6, c7, c8, oC 2 [aI s_size, aR 10, aR 11, aR 12, aR 13, aR 14, aR 15, aR 16], c10, iC room s_levels, iC room s_origins, c13, c14, c15, c16, c17, c18, c19, c20, c21, c22, c23, c24, c25]) ∧ (¬ s_size ≤ l3 → sp_St_has [aR 9, aI l2] [c0, c1, c2, c3, c4, c5, c6, c7, c8, oC 2 [aI s_size, aR 10, aR 11, aR 12, aR 13, aR 14, aR 15, aR 16], c10, iC room s_levels, iC room s_origins, c13, c14, c15, c16, c17, c18, c19, c20, c21, c22, c23, c24, c25] (fun rv w' => AW X 22 [some (aR 9), some (aI l1), some (aI l2), some (aI l3)] (rv.toList ++ []) w' bc bs))) :
    AW X 9 [some (aR 9), some (aI l1), some (aI l2), some (aI l3)] [] [c0, c1, c2, c3, c4, c5, c6, c7, c8, oC 2 [aI s_size, aR 10, aR 11, aR 12, aR 13, aR 14, aR 15, aR 16], c10, iC room s_levels, iC room s_origins, c13, c14, c15, c16, c17, c18, c19, c20, c21, c22, c23, c24, c25] bc bs := by
  refine aw_iload_n K d_St_beforeLast_9 rfl rfl ?_
  refine aw_aload_n K d_St_beforeLast_10 rfl rfl ?_
  refine aw_getf K fd_St_9 d_St_beforeLast_11 rfl rfl rfl ?_
  refine aw_icmp_ge K d_St_beforeLast_14 (t := 48) (by decide) rfl (fun q => ?_) (fun q => ?_)
  · replace h := h.1 q
    refine aw_iload_n K d_St_beforeLast_48 rfl rfl ?_
    exact aw_iret K hr d_St_beforeLast_49 h
  · replace h := h.2 q
    refine aw_aload_n K d_St_beforeLast_17 rfl rfl ?_
    refine aw_iload_n K d_St_beforeLast_18 rfl rfl ?_
    exact aw_callV K c_St_has cb_St_56 ci_St_has cs_St_has hdd_St_has (k := 9) rfl rfl d_St_beforeLast_19 rfl (av := [aI l2]) rfl (Nat.le_of_ble_eq_true rfl) h (fun rv w' hF => hF)
set_option maxRecDepth 20000 in
theorem x_St_beforeLast_22 {X : am_X} {dd bc bs : Nat} (K : am_ok X b_St_beforeLast R_St 4 dd) {post : Option am_V → List am_C → Prop} (hr : am_rt X (some .int) post) {l1 l2 l3 s0 s_size : Int32} {s_levels s_origins : Nat → Int32} {room : Nat} {c0 c1 c2 c3 c4 c5 c6 c7 c8 c10 c13 c14 c15 c16 c17 c18 c19 c20 c21 c22 c23 c24 c25 : am_C}
    (h : (s0 = 0 → post (some (aI l2)) [c0, c1, c2, c3, c4, c5, c6, c7, c8, oC 2 [aI s_size, aR 10, aR 11, aR 12, aR 13, aR 14, aR 15, aR 16], c10, iC room s_levels, iC room s_origins, c13, c14, c15, c16, c17, c18, c19, c20, c21, c22, c23, c24, c25]) ∧ (¬ s0 = 0 → vp_in l2 room ∧ ((s_levels l2.toNatClampNeg) ≤ l1 → post (some (aI l2)) [c0, c1, c2, c3, c4, c5, c6, c7, c8, oC 2 [aI s_size, aR 10, aR 11, aR 12, aR 13, aR 14, aR 15, aR 16], c10, iC room s_levels, iC room s_origins, c13, c14, c15, c16, c17, c18, c19, c20, c21, c22, c23, c24, c25]) ∧ (¬ (s_levels l2.toNatClampNeg) ≤ l1 → vp_in l2 room ∧ AW X 9 [some (aR 9), some (aI l1), some (aI (s_origins l2.toNatClampNeg)), some (aI (l3 + 1))] [] [c0, c1, c2, c3, c4, c5, c6, c7, c8, oC 2 [aI s_size, aR 10, aR 11, aR 12, aR 13, aR 14, aR 15, aR 16], c10, iC room s_levels, iC room s_origins, c13, c14, c15, c16, c17, c18, c19, c20, c21, c22, c23, c24, c25] bc bs))) :
    AW X 22 [some (aR 9), some (aI l1), some (aI l2), some (aI l3)] [aI s0] [c0, c1, c2, c3, c4, c5, c6, c7, c8, oC 2 [aI s_size, aR 10, aR 11, aR 12, aR 13, aR 14, aR 15, aR 16], c10, iC room s_levels, iC room s_origins, c13, c14, c15, c16, c17, c18, c19, c20, c21, c22, c23, c24, c25] bc bs := by
  refine aw_if_eq K d_St_beforeLast_22 (t := 48) (by decide) rfl (fun q => ?_) (fun q => ?_)
  · replace h := h.1 q
    refine aw_iload_n K d_St_beforeLast_48 rfl rfl ?_
    exact aw_iret K hr d_St_beforeLast_49 h
  · replace h := h.2 q
    refine aw_aload_n K d_St_beforeLast_25 rfl rfl ?_
    refine aw_getf K fd_St_19 d_St_beforeLast_26 rfl rfl rfl ?_
    refine aw_iload_n K d_St_beforeLast_29 rfl rfl ?_
    refine aw_iald K d_St_beforeLast_30 rfl rfl h.1 ?_
    replace h := h.2
    refine aw_iload_n K d_St_beforeLast_31 rfl rfl ?_
    refine aw_icmp_le K d_St_beforeLast_32 (t := 48) (by decide) rfl (fun q => ?_) (fun q => ?_)
    · replace h := h.1 q
      refine aw_iload_n K d_St_beforeLast_48 rfl rfl ?_
      exact aw_iret K hr d_St_beforeLast_49 h
    · replace h := h.2 q
      refine aw_aload_n K d_St_beforeLast_35 rfl rfl ?_
      refine aw_getf K fd_St_23 d_St_beforeLast_36 rfl rfl rfl ?_
      refine aw_iload_n K d_St_beforeLast_39 rfl rfl ?_
      refine aw_iald K d_St_beforeLast_40 rfl rfl h.1 ?_
      replace h := h.2
      refine aw_istore_n K d_St_beforeLast_41 rfl (by decide) (lv' := [some (aR 9), some (aI l1), some (aI (s_origins l2.toNatClampNeg)), some (aI l3)]) rfl ?_
      refine aw_iinc K d_St_beforeLast_42 rfl rfl (v := l3 + 1) rfl (by decide) (lv' := [some (aR 9), some (aI l1), some (aI (s_origins l2.toNatClampNeg)), some (aI (l3 + 1))]) rfl ?_
      refine aw_goto K d_St_beforeLast_45 (n := 9) (by decide) ?_
      exact h
set_option maxRecDepth 20000 in
theorem x_St_add_0 {X : am_X} {dd bc bs : Nat} (K : am_ok X b_St_add R_St 5 dd) {post : Option am_V → List am_C → Prop} (hr : am_rt X none post) {sp_St_has : am_S} {dd_St_has : Nat} (c_St_has : Con y_St_has b_St_has 2 (some .boolean) dd_St_has 0 0 false sp_St_has) (hdd_St_has : dd_St_has + 1 ≤ dd) {l1 l3 l4 s_size v_nodes v_numberings v_size v_symmetries : Int32} {v_form : Int64} {s_levels s_origins s_rules s_steps s_symmetries s_slots : Nat → Int32} {s_forms : Nat → Int64} {room nsl : Nat} {c0 c1 c2 c3 c4 c5 c6 c7 c8 c17 c18 c19 c20 c21 c23 c24 c25 : am_C}
    (h : vp_in s_size room ∧ sp_St_has [aR 9, aI l3] [c0, c1, c2, c3, c4, c5, c6, c7, c8, oC 2 [aI s_size, aR 10, aR 11, aR 12, aR 13, aR 14, aR 15, aR 16], jC room (vp_updL s_forms s_size.toNatClampNeg v_form), iC room s_levels, iC room s_origins, iC room s_rules, iC room s_steps, iC room s_symmetries, iC nsl s_slots, c17, c18, c19, c20, c21, oC 4 [aI v_nodes, aI v_numberings, aR 23, aR 24, aI v_size, aL v_form, aI v_symmetries, aR 25], c23, c24, c25] (fun rv w' => AW X 26 [some (aR 9), some (aI l1), some (aR 22), some (aI l3), some (aI l4)] (rv.toList ++ [aI s_size, aR 11]) w' bc bs)) :
    AW X 0 [some (aR 9), some (aI l1), some (aR 22), some (aI l3), some (aI l4)] [] [c0, c1, c2, c3, c4, c5, c6, c7, c8, oC 2 [aI s_size, aR 10, aR 11, aR 12, aR 13, aR 14, aR 15, aR 16], jC room s_forms, iC room s_levels, iC room s_origins, iC room s_rules, iC room s_steps, iC room s_symmetries, iC nsl s_slots, c17, c18, c19, c20, c21, oC 4 [aI v_nodes, aI v_numberings, aR 23, aR 24, aI v_size, aL v_form, aI v_symmetries, aR 25], c23, c24, c25] bc bs := by
  refine aw_aload_n K d_St_add_0 rfl rfl ?_
  refine aw_getf K fd_St_15 d_St_add_1 rfl rfl rfl ?_
  refine aw_aload_n K d_St_add_4 rfl rfl ?_
  refine aw_getf K fd_St_9 d_St_add_5 rfl rfl rfl ?_
  refine aw_aload_n K d_St_add_8 rfl rfl ?_
  refine aw_getf K fd_St_50 d_St_add_9 rfl rfl rfl ?_
  refine aw_last K d_St_add_12 rfl rfl h.1 (w' := [c0, c1, c2, c3, c4, c5, c6, c7, c8, oC 2 [aI s_size, aR 10, aR 11, aR 12, aR 13, aR 14, aR 15, aR 16], jC room (vp_updL s_forms s_size.toNatClampNeg v_form), iC room s_levels, iC room s_origins, iC room s_rules, iC room s_steps, iC room s_symmetries, iC nsl s_slots, c17, c18, c19, c20, c21, oC 4 [aI v_nodes, aI v_numberings, aR 23, aR 24, aI v_size, aL v_form, aI v_symmetries, aR 25], c23, c24, c25]) rfl ?_
  replace h := h.2
  refine aw_aload_n K d_St_add_13 rfl rfl ?_
  refine aw_getf K fd_St_19 d_St_add_14 rfl rfl rfl ?_
  refine aw_aload_n K d_St_add_17 rfl rfl ?_
  refine aw_getf K fd_St_9 d_St_add_18 rfl rfl rfl ?_
  refine aw_aload_n K d_St_add_21 rfl rfl ?_
  refine aw_iload_n K d_St_add_22 rfl rfl ?_
  exact aw_callV K c_St_has cb_St_56 ci_St_has cs_St_has hdd_St_has (k := 9) rfl rfl d_St_add_23 rfl (av := [aI l3]) rfl (Nat.le_of_ble_eq_true rfl) h (fun rv w' hF => hF)
set_option maxRecDepth 20000 in
theorem x_St_add_26 {X : am_X} {dd bc bs : Nat} (K : am_ok X b_St_add R_St 5 dd) {post : Option am_V → List am_C → Prop} (hr : am_rt X none post) {l1 l3 l4 s0 s1 s_size v_nodes v_numberings v_size v_symmetries : Int32} {v_form : Int64} {s_levels s_origins s_rules s_steps s_symmetries s_slots : Nat → Int32} {s_forms : Nat → Int64} {room nsl : Nat} {c0 c1 c2 c3 c4 c5 c6 c7 c8 c17 c18 c19 c20 c21 c23 c24 c25 : am_C}
    (h : (s0 = 0 → AW X 41 [some (aR 9), some (aI l1), some (aR 22), some (aI l3), some (aI l4)] [aI 0, aI s1, aR 11] [c0, c1, c2, c3, c4, c5, c6, c7, c8, oC 2 [aI s_size, aR 10, aR 11, aR 12, aR 13, aR 14, aR 15, aR 16], jC room s_forms, iC room s_levels, iC room s_origins, iC room s_rules, iC room s_steps, iC room s_symmetries, iC nsl s_slots, c17, c18, c19, c20, c21, oC 4 [aI v_nodes, aI v_numberings, aR 23, aR 24, aI v_size, aL v_form, aI v_symmetries, aR 25], c23, c24, c25] bc bs) ∧ (¬ s0 = 0 → vp_in l3 room ∧ AW X 41 [some (aR 9), some (aI l1), some (aR 22), some (aI l3), some (aI l4)] [aI ((s_levels l3.toNatClampNeg) + (1 : Int32)), aI s1, aR 11] [c0, c1, c2, c3, c4, c5, c6, c7, c8, oC 2 [aI s_size, aR 10, aR 11, aR 12, aR 13, aR 14, aR 15, aR 16], jC room s_forms, iC room s_levels, iC room s_origins, iC room s_rules, iC room s_steps, iC room s_symmetries, iC nsl s_slots, c17, c18, c19, c20, c21, oC 4 [aI v_nodes, aI v_numberings, aR 23, aR 24, aI v_size, aL v_form, aI v_symmetries, aR 25], c23, c24, c25] bc bs)) :
    AW X 26 [some (aR 9), some (aI l1), some (aR 22), some (aI l3), some (aI l4)] [aI s0, aI s1, aR 11] [c0, c1, c2, c3, c4, c5, c6, c7, c8, oC 2 [aI s_size, aR 10, aR 11, aR 12, aR 13, aR 14, aR 15, aR 16], jC room s_forms, iC room s_levels, iC room s_origins, iC room s_rules, iC room s_steps, iC room s_symmetries, iC nsl s_slots, c17, c18, c19, c20, c21, oC 4 [aI v_nodes, aI v_numberings, aR 23, aR 24, aI v_size, aL v_form, aI v_symmetries, aR 25], c23, c24, c25] bc bs := by
  refine aw_if_eq K d_St_add_26 (t := 40) (by decide) rfl (fun q => ?_) (fun q => ?_)
  · replace h := h.1 q
    refine aw_iconst K d_St_add_40 rfl (v := 0) (by decide) ?_
    exact h
  · replace h := h.2 q
    refine aw_aload_n K d_St_add_29 rfl rfl ?_
    refine aw_getf K fd_St_19 d_St_add_30 rfl rfl rfl ?_
    refine aw_iload_n K d_St_add_33 rfl rfl ?_
    refine aw_iald K d_St_add_34 rfl rfl h.1 ?_
    replace h := h.2
    refine aw_iconst K d_St_add_35 rfl (v := 1) (by decide) ?_
    refine aw_iadd K d_St_add_36 rfl ?_
    refine aw_goto K d_St_add_37 (n := 41) (by decide) ?_
    exact h
set_option maxRecDepth 20000 in
theorem x_St_add_41 {X : am_X} {dd bc bs : Nat} (K : am_ok X b_St_add R_St 5 dd) {post : Option am_V → List am_C → Prop} (hr : am_rt X none post) {l1 l3 l4 s0 s1 s_size v_nodes v_numberings v_size v_symmetries : Int32} {v_form : Int64} {s_levels s_origins s_rules s_steps s_symmetries s_slots : Nat → Int32} {s_forms : Nat → Int64} {room nsl : Nat} {c0 c1 c2 c3 c4 c5 c6 c7 c8 c17 c18 c19 c20 c21 c23 c24 c25 : am_C}
    (h : vp_in s1 room ∧ vp_in s_size room ∧ vp_in s_size room ∧ vp_in s_size room ∧ vp_in s_size room ∧ vp_in l1 nsl ∧ post none [c0, c1, c2, c3, c4, c5, c6, c7, c8, oC 2 [aI (s_size + (1 : Int32)), aR 10, aR 11, aR 12, aR 13, aR 14, aR 15, aR 16], jC room s_forms, iC room (upd s_levels s1.toNatClampNeg s0), iC room (upd s_origins s_size.toNatClampNeg l3), iC room (upd s_rules s_size.toNatClampNeg l4), iC room (upd s_steps s_size.toNatClampNeg ((-1))), iC room (upd s_symmetries s_size.toNatClampNeg v_symmetries), iC nsl (upd s_slots l1.toNatClampNeg (s_size + (1 : Int32))), c17, c18, c19, c20, c21, oC 4 [aI v_nodes, aI v_numberings, aR 23, aR 24, aI v_size, aL v_form, aI v_symmetries, aR 25], c23, c24, c25]) :
    AW X 41 [some (aR 9), some (aI l1), some (aR 22), some (aI l3), some (aI l4)] [aI s0, aI s1, aR 11] [c0, c1, c2, c3, c4, c5, c6, c7, c8, oC 2 [aI s_size, aR 10, aR 11, aR 12, aR 13, aR 14, aR 15, aR 16], jC room s_forms, iC room s_levels, iC room s_origins, iC room s_rules, iC room s_steps, iC room s_symmetries, iC nsl s_slots, c17, c18, c19, c20, c21, oC 4 [aI v_nodes, aI v_numberings, aR 23, aR 24, aI v_size, aL v_form, aI v_symmetries, aR 25], c23, c24, c25] bc bs := by
  refine aw_iast K d_St_add_41 rfl rfl h.1 (w' := [c0, c1, c2, c3, c4, c5, c6, c7, c8, oC 2 [aI s_size, aR 10, aR 11, aR 12, aR 13, aR 14, aR 15, aR 16], jC room s_forms, iC room (upd s_levels s1.toNatClampNeg s0), iC room s_origins, iC room s_rules, iC room s_steps, iC room s_symmetries, iC nsl s_slots, c17, c18, c19, c20, c21, oC 4 [aI v_nodes, aI v_numberings, aR 23, aR 24, aI v_size, aL v_form, aI v_symmetries, aR 25], c23, c24, c25]) rfl ?_
  replace h := h.2
  refine aw_aload_n K d_St_add_42 rfl rfl ?_
  refine aw_getf K fd_St_23 d_St_add_43 rfl rfl rfl ?_
  refine aw_aload_n K d_St_add_46 rfl rfl ?_
  refine aw_getf K fd_St_9 d_St_add_47 rfl rfl rfl ?_
  refine aw_iload_n K d_St_add_50 rfl rfl ?_
  refine aw_iast K d_St_add_51 rfl rfl h.1 (w' := [c0, c1, c2, c3, c4, c5, c6, c7, c8, oC 2 [aI s_size, aR 10, aR 11, aR 12, aR 13, aR 14, aR 15, aR 16], jC room s_forms, iC room (upd s_levels s1.toNatClampNeg s0), iC room (upd s_origins s_size.toNatClampNeg l3), iC room s_rules, iC room s_steps, iC room s_symmetries, iC nsl s_slots, c17, c18, c19, c20, c21, oC 4 [aI v_nodes, aI v_numberings, aR 23, aR 24, aI v_size, aL v_form, aI v_symmetries, aR 25], c23, c24, c25]) rfl ?_
  replace h := h.2
  refine aw_aload_n K d_St_add_52 rfl rfl ?_
  refine aw_getf K fd_St_26 d_St_add_53 rfl rfl rfl ?_
  refine aw_aload_n K d_St_add_56 rfl rfl ?_
  refine aw_getf K fd_St_9 d_St_add_57 rfl rfl rfl ?_
  refine aw_iload K d_St_add_60 rfl rfl ?_
  refine aw_iast K d_St_add_62 rfl rfl h.1 (w' := [c0, c1, c2, c3, c4, c5, c6, c7, c8, oC 2 [aI s_size, aR 10, aR 11, aR 12, aR 13, aR 14, aR 15, aR 16], jC room s_forms, iC room (upd s_levels s1.toNatClampNeg s0), iC room (upd s_origins s_size.toNatClampNeg l3), iC room (upd s_rules s_size.toNatClampNeg l4), iC room s_steps, iC room s_symmetries, iC nsl s_slots, c17, c18, c19, c20, c21, oC 4 [aI v_nodes, aI v_numberings, aR 23, aR 24, aI v_size, aL v_form, aI v_symmetries, aR 25], c23, c24, c25]) rfl ?_
  replace h := h.2
  refine aw_aload_n K d_St_add_63 rfl rfl ?_
  refine aw_getf K fd_St_29 d_St_add_64 rfl rfl rfl ?_
  refine aw_aload_n K d_St_add_67 rfl rfl ?_
  refine aw_getf K fd_St_9 d_St_add_68 rfl rfl rfl ?_
  refine aw_iconst K d_St_add_71 rfl (v := (-1)) (by decide) ?_
  refine aw_iast K d_St_add_72 rfl rfl h.1 (w' := [c0, c1, c2, c3, c4, c5, c6, c7, c8, oC 2 [aI s_size, aR 10, aR 11, aR 12, aR 13, aR 14, aR 15, aR 16], jC room s_forms, iC room (upd s_levels s1.toNatClampNeg s0), iC room (upd s_origins s_size.toNatClampNeg l3), iC room (upd s_rules s_size.toNatClampNeg l4), iC room (upd s_steps s_size.toNatClampNeg ((-1))), iC room s_symmetries, iC nsl s_slots, c17, c18, c19, c20, c21, oC 4 [aI v_nodes, aI v_numberings, aR 23, aR 24, aI v_size, aL v_form, aI v_symmetries, aR 25], c23, c24, c25]) rfl ?_
  replace h := h.2
  refine aw_aload_n K d_St_add_73 rfl rfl ?_
  refine aw_getf K fd_St_32 d_St_add_74 rfl rfl rfl ?_
  refine aw_aload_n K d_St_add_77 rfl rfl ?_
  refine aw_getf K fd_St_9 d_St_add_78 rfl rfl rfl ?_
  refine aw_aload_n K d_St_add_81 rfl rfl ?_
  refine aw_getf K fd_St_60 d_St_add_82 rfl rfl rfl ?_
  refine aw_iast K d_St_add_85 rfl rfl h.1 (w' := [c0, c1, c2, c3, c4, c5, c6, c7, c8, oC 2 [aI s_size, aR 10, aR 11, aR 12, aR 13, aR 14, aR 15, aR 16], jC room s_forms, iC room (upd s_levels s1.toNatClampNeg s0), iC room (upd s_origins s_size.toNatClampNeg l3), iC room (upd s_rules s_size.toNatClampNeg l4), iC room (upd s_steps s_size.toNatClampNeg ((-1))), iC room (upd s_symmetries s_size.toNatClampNeg v_symmetries), iC nsl s_slots, c17, c18, c19, c20, c21, oC 4 [aI v_nodes, aI v_numberings, aR 23, aR 24, aI v_size, aL v_form, aI v_symmetries, aR 25], c23, c24, c25]) rfl ?_
  replace h := h.2
  refine aw_aload_n K d_St_add_86 rfl rfl ?_
  refine aw_getf K fd_St_39 d_St_add_87 rfl rfl rfl ?_
  refine aw_iload_n K d_St_add_90 rfl rfl ?_
  refine aw_aload_n K d_St_add_91 rfl rfl ?_
  refine aw_dup K d_St_add_92 rfl (fun _ e => nomatch e) ?_
  refine aw_getf K fd_St_9 d_St_add_93 rfl rfl rfl ?_
  refine aw_iconst K d_St_add_96 rfl (v := 1) (by decide) ?_
  refine aw_iadd K d_St_add_97 rfl ?_
  refine aw_dup_x1 K d_St_add_98 rfl (fun _ e => nomatch e) (fun _ e => nomatch e) ?_
  refine aw_putf K fp_St_9 d_St_add_99 rfl rfl (Nat.le_of_ble_eq_true rfl) (am_fit_i _) (w' := [c0, c1, c2, c3, c4, c5, c6, c7, c8, oC 2 [aI (s_size + (1 : Int32)), aR 10, aR 11, aR 12, aR 13, aR 14, aR 15, aR 16], jC room s_forms, iC room (upd s_levels s1.toNatClampNeg s0), iC room (upd s_origins s_size.toNatClampNeg l3), iC room (upd s_rules s_size.toNatClampNeg l4), iC room (upd s_steps s_size.toNatClampNeg ((-1))), iC room (upd s_symmetries s_size.toNatClampNeg v_symmetries), iC nsl s_slots, c17, c18, c19, c20, c21, oC 4 [aI v_nodes, aI v_numberings, aR 23, aR 24, aI v_size, aL v_form, aI v_symmetries, aR 25], c23, c24, c25]) rfl ?_
  refine aw_iast K d_St_add_102 rfl rfl h.1 (w' := [c0, c1, c2, c3, c4, c5, c6, c7, c8, oC 2 [aI (s_size + (1 : Int32)), aR 10, aR 11, aR 12, aR 13, aR 14, aR 15, aR 16], jC room s_forms, iC room (upd s_levels s1.toNatClampNeg s0), iC room (upd s_origins s_size.toNatClampNeg l3), iC room (upd s_rules s_size.toNatClampNeg l4), iC room (upd s_steps s_size.toNatClampNeg ((-1))), iC room (upd s_symmetries s_size.toNatClampNeg v_symmetries), iC nsl (upd s_slots l1.toNatClampNeg (s_size + (1 : Int32))), c17, c18, c19, c20, c21, oC 4 [aI v_nodes, aI v_numberings, aR 23, aR 24, aI v_size, aL v_form, aI v_symmetries, aR 25], c23, c24, c25]) rfl ?_
  replace h := h.2
  exact aw_vret K hr d_St_add_103 h
set_option maxRecDepth 20000 in
theorem x_Ma_floorMod_0 {X : am_X} {dd bc bs : Nat} (K : am_ok X b_Ma_floorMod R_Ma 3 dd) {post : Option am_V → List am_C → Prop} (hr : am_rt X (some .int) post) {l0 l1 : Int32} {c0 c1 c2 c3 c4 c5 c6 c7 c8 c9 c10 c11 c12 c13 c14 c15 c16 c17 c18 c19 c20 c21 c22 c23 c24 c25 : am_C}
    (h : ¬ l1 = 0 ∧ (0 ≤ (l0 ^^^ l1) → post (some (aI (l0 - l0 / l1 * l1))) [c0, c1, c2, c3, c4, c5, c6, c7, c8, c9, c10, c11, c12, c13, c14, c15, c16, c17, c18, c19, c20, c21, c22, c23, c24, c25]) ∧ (¬ 0 ≤ (l0 ^^^ l1) → ((l0 - l0 / l1 * l1) = 0 → post (some (aI (l0 - l0 / l1 * l1))) [c0, c1, c2, c3, c4, c5, c6, c7, c8, c9, c10, c11, c12, c13, c14, c15, c16, c17, c18, c19, c20, c21, c22, c23, c24, c25]) ∧ (¬ (l0 - l0 / l1 * l1) = 0 → post (some (aI ((l0 - l0 / l1 * l1) + l1))) [c0, c1, c2, c3, c4, c5, c6, c7, c8, c9, c10, c11, c12, c13, c14, c15, c16, c17, c18, c19, c20, c21, c22, c23, c24, c25]))) :
    AW X 0 [some (aI l0), some (aI l1), none] [] [c0, c1, c2, c3, c4, c5, c6, c7, c8, c9, c10, c11, c12, c13, c14, c15, c16, c17, c18, c19, c20, c21, c22, c23, c24, c25] bc bs := by
  refine aw_iload_n K d_Ma_floorMod_0 rfl rfl ?_
  refine aw_iload_n K d_Ma_floorMod_1 rfl rfl ?_
  refine aw_irem K d_Ma_floorMod_2 rfl h.1 ?_
  replace h := h.2
  refine aw_istore_n K d_Ma_floorMod_3 rfl (by decide) (lv' := [some (aI l0), some (aI l1), some (aI (l0 - l0 / l1 * l1))]) rfl ?_
  refine aw_iload_n K d_Ma_floorMod_4 rfl rfl ?_
  refine aw_iload_n K d_Ma_floorMod_5 rfl rfl ?_
  refine aw_ixor K d_Ma_floorMod_6 rfl ?_
  refine aw_if_ge K d_Ma_floorMod_7 (t := 18) (by decide) rfl (fun q => ?_) (fun q => ?_)
  · replace h := h.1 q
    refine aw_iload_n K d_Ma_floorMod_18 rfl rfl ?_
    exact aw_iret K hr d_Ma_floorMod_19 h
  · replace h := h.2 q
    refine aw_iload_n K d_Ma_floorMod_10 rfl rfl ?_
    refine aw_if_eq K d_Ma_floorMod_11 (t := 18) (by decide) rfl (fun q => ?_) (fun q => ?_)
    · replace h := h.1 q
      refine aw_iload_n K d_Ma_floorMod_18 rfl rfl ?_
      exact aw_iret K hr d_Ma_floorMod_19 h
    · replace h := h.2 q
      refine aw_iload_n K d_Ma_floorMod_14 rfl rfl ?_
      refine aw_iload_n K d_Ma_floorMod_15 rfl rfl ?_
      refine aw_iadd K d_Ma_floorMod_16 rfl ?_
      exact aw_iret K hr d_Ma_floorMod_17 h
set_option maxRecDepth 20000 in
theorem x_Ar_fill_0 {X : am_X} {dd bc bs : Nat} (K : am_ok X b_Ar_fill R_Ar 4 dd) {post : Option am_V → List am_C → Prop} (hr : am_rt X none post) {l1 : Int32} {s_slots : Nat → Int32} {nsl : Nat} {c0 c1 c2 c3 c4 c5 c6 c7 c8 c9 c10 c11 c12 c13 c14 c15 c17 c18 c19 c20 c21 c22 c23 c24 c25 : am_C}
    (h : AW X 5 [some (aR 16), some (aI l1), some (aI 0), some (aI (nI nsl))] [] [c0, c1, c2, c3, c4, c5, c6, c7, c8, c9, c10, c11, c12, c13, c14, c15, iC nsl s_slots, c17, c18, c19, c20, c21, c22, c23, c24, c25] bc bs) :
    AW X 0 [some (aR 16), some (aI l1), none, none] [] [c0, c1, c2, c3, c4, c5, c6, c7, c8, c9, c10, c11, c12, c13, c14, c15, iC nsl s_slots, c17, c18, c19, c20, c21, c22, c23, c24, c25] bc bs := by
  refine aw_iconst K d_Ar_fill_0 rfl (v := 0) (by decide) ?_
  refine aw_istore_n K d_Ar_fill_1 rfl (by decide) (lv' := [some (aR 16), some (aI l1), some (aI 0), none]) rfl ?_
  refine aw_aload_n K d_Ar_fill_2 rfl rfl ?_
  refine aw_ilen K d_Ar_fill_3 rfl rfl ?_
  refine aw_istore_n K d_Ar_fill_4 rfl (by decide) (lv' := [some (aR 16), some (aI l1), some (aI 0), some (aI (nI nsl))]) rfl ?_
  exact h
set_option maxRecDepth 20000 in
theorem x_Ar_fill_5 {X : am_X} {dd bc bs : Nat} (K : am_ok X b_Ar_fill R_Ar 4 dd) {post : Option am_V → List am_C → Prop} (hr : am_rt X none post) {l1 l2 l3 : Int32} {s_slots : Nat → Int32} {nsl : Nat} {c0 c1 c2 c3 c4 c5 c6 c7 c8 c9 c10 c11 c12 c13 c14 c15 c17 c18 c19 c20 c21 c22 c23 c24 c25 : am_C}
    (h : (l3 ≤ l2 → post none [c0, c1, c2, c3, c4, c5, c6, c7, c8, c9, c10, c11, c12, c13, c14, c15, iC nsl s_slots, c17, c18, c19, c20, c21, c22, c23, c24, c25]) ∧ (¬ l3 ≤ l2 → vp_in l2 nsl ∧ AW X 5 [some (aR 16), some (aI l1), some (aI (l2 + 1)), some (aI l3)] [] [c0, c1, c2, c3, c4, c5, c6, c7, c8, c9, c10, c11, c12, c13, c14, c15, iC nsl (upd s_slots l2.toNatClampNeg l1), c17, c18, c19, c20, c21, c22, c23, c24, c25] bc bs)) :
    AW X 5 [some (aR 16), some (aI l1), some (aI l2), some (aI l3)] [] [c0, c1, c2, c3, c4, c5, c6, c7, c8, c9, c10, c11, c12, c13, c14, c15, iC nsl s_slots, c17, c18, c19, c20, c21, c22, c23, c24, c25] bc bs := by
  refine aw_iload_n K d_Ar_fill_5 rfl rfl ?_
  refine aw_iload_n K d_Ar_fill_6 rfl rfl ?_
  refine aw_icmp_ge K d_Ar_fill_7 (t := 20) (by decide) rfl (fun q => ?_) (fun q => ?_)
  · replace h := h.1 q
    exact aw_vret K hr d_Ar_fill_20 h
  · replace h := h.2 q
    refine aw_aload_n K d_Ar_fill_10 rfl rfl ?_
    refine aw_iload_n K d_Ar_fill_11 rfl rfl ?_
    refine aw_iload_n K d_Ar_fill_12 rfl rfl ?_
    refine aw_iast K d_Ar_fill_13 rfl rfl h.1 (w' := [c0, c1, c2, c3, c4, c5, c6, c7, c8, c9, c10, c11, c12, c13, c14, c15, iC nsl (upd s_slots l2.toNatClampNeg l1), c17, c18, c19, c20, c21, c22, c23, c24, c25]) rfl ?_
    replace h := h.2
    refine aw_iinc K d_Ar_fill_14 rfl rfl (v := l2 + 1) rfl (by decide) (lv' := [some (aR 16), some (aI l1), some (aI (l2 + 1)), some (aI l3)]) rfl ?_
    refine aw_goto K d_Ar_fill_17 (n := 5) (by decide) ?_
    exact h

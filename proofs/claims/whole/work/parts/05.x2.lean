set_option maxRecDepth 20000 in
theorem x_SE_stateIn_0 {X : am_X} {dd bc bs : Nat} (K : am_ok X b_SE_stateIn R_SE 3 dd) {post : Option am_V → List am_C → Prop} (hr : am_rt X (some .int) post) {l2 : Int32} {l0 : Int64} {c0 c1 c2 c3 c4 c5 c6 c7 c8 c9 c10 c11 c12 c13 c14 c15 c16 c17 c18 c19 c20 c21 c22 c23 c24 c25 : am_C}
    (h : post (some (aI ((((l0.toUInt64 >>> (((49 : Int32) + ((3 : Int32) * ((3 : Int32) - l2))).toInt64.toUInt64 &&& Int64.toUInt64 63)).toInt64).toInt32) &&& (7 : Int32)))) [c0, c1, c2, c3, c4, c5, c6, c7, c8, c9, c10, c11, c12, c13, c14, c15, c16, c17, c18, c19, c20, c21, c22, c23, c24, c25]) :
    AW X 0 [some (aL l0), none, some (aI l2)] [] [c0, c1, c2, c3, c4, c5, c6, c7, c8, c9, c10, c11, c12, c13, c14, c15, c16, c17, c18, c19, c20, c21, c22, c23, c24, c25] bc bs := by
  refine aw_lload_n K d_SE_stateIn_0 rfl rfl ?_
  refine aw_bipush K d_SE_stateIn_1 rfl (v := 49) (by decide) ?_
  refine aw_iconst K d_SE_stateIn_3 rfl (v := 3) (by decide) ?_
  refine aw_iconst K d_SE_stateIn_4 rfl (v := 3) (by decide) ?_
  refine aw_iload_n K d_SE_stateIn_5 rfl rfl ?_
  refine aw_isub K d_SE_stateIn_6 rfl ?_
  refine aw_imul K d_SE_stateIn_7 rfl ?_
  refine aw_iadd K d_SE_stateIn_8 rfl ?_
  refine aw_lushr K d_SE_stateIn_9 rfl ?_
  refine aw_l2i K d_SE_stateIn_10 rfl ?_
  refine aw_bipush K d_SE_stateIn_11 rfl (v := 7) (by decide) ?_
  refine aw_iand K d_SE_stateIn_13 rfl ?_
  exact aw_iret K hr d_SE_stateIn_14 h
set_option maxRecDepth 20000 in
theorem x_SE_codeIn_0 {X : am_X} {dd bc bs : Nat} (K : am_ok X b_SE_codeIn R_SE 3 dd) {post : Option am_V → List am_C → Prop} (hr : am_rt X (some .int) post) {l2 : Int32} {l0 : Int64} {c0 c1 c2 c3 c4 c5 c6 c7 c8 c9 c10 c11 c12 c13 c14 c15 c16 c17 c18 c19 c20 c21 c22 c23 c24 c25 : am_C}
    (h : post (some (aI (((((l0.toUInt64 >>> (((7 : Int32) * ((6 : Int32) - l2)).toInt64.toUInt64 &&& Int64.toUInt64 63)).toInt64).toInt32) &&& (127 : Int32)) - (1 : Int32)))) [c0, c1, c2, c3, c4, c5, c6, c7, c8, c9, c10, c11, c12, c13, c14, c15, c16, c17, c18, c19, c20, c21, c22, c23, c24, c25]) :
    AW X 0 [some (aL l0), none, some (aI l2)] [] [c0, c1, c2, c3, c4, c5, c6, c7, c8, c9, c10, c11, c12, c13, c14, c15, c16, c17, c18, c19, c20, c21, c22, c23, c24, c25] bc bs := by
  refine aw_lload_n K d_SE_codeIn_0 rfl rfl ?_
  refine aw_bipush K d_SE_codeIn_1 rfl (v := 7) (by decide) ?_
  refine aw_bipush K d_SE_codeIn_3 rfl (v := 6) (by decide) ?_
  refine aw_iload_n K d_SE_codeIn_5 rfl rfl ?_
  refine aw_isub K d_SE_codeIn_6 rfl ?_
  refine aw_imul K d_SE_codeIn_7 rfl ?_
  refine aw_lushr K d_SE_codeIn_8 rfl ?_
  refine aw_l2i K d_SE_codeIn_9 rfl ?_
  refine aw_bipush K d_SE_codeIn_10 rfl (v := 127) (by decide) ?_
  refine aw_iand K d_SE_codeIn_12 rfl ?_
  refine aw_iconst K d_SE_codeIn_13 rfl (v := 1) (by decide) ?_
  refine aw_isub K d_SE_codeIn_14 rfl ?_
  exact aw_iret K hr d_SE_codeIn_15 h
set_option maxRecDepth 20000 in
theorem x_SE_codesIn_0 {X : am_X} {dd bc bs : Nat} (K : am_ok X b_SE_codesIn R_SE 3 dd) {post : Option am_V → List am_C → Prop} (hr : am_rt X (some .int) post) {l0 : Int64} {c0 c1 c2 c3 c4 c5 c6 c7 c8 c9 c10 c11 c12 c13 c14 c15 c16 c17 c18 c19 c20 c21 c22 c23 c24 c25 : am_C}
    (h : AW X 2 [some (aL l0), none, some (aI 0)] [] [c0, c1, c2, c3, c4, c5, c6, c7, c8, c9, c10, c11, c12, c13, c14, c15, c16, c17, c18, c19, c20, c21, c22, c23, c24, c25] bc bs) :
    AW X 0 [some (aL l0), none, none] [] [c0, c1, c2, c3, c4, c5, c6, c7, c8, c9, c10, c11, c12, c13, c14, c15, c16, c17, c18, c19, c20, c21, c22, c23, c24, c25] bc bs := by
  refine aw_iconst K d_SE_codesIn_0 rfl (v := 0) (by decide) ?_
  refine aw_istore_n K d_SE_codesIn_1 rfl (by decide) (lv' := [some (aL l0), none, some (aI 0)]) rfl ?_
  exact h
set_option maxRecDepth 20000 in
theorem x_SE_codesIn_2 {X : am_X} {dd bc bs : Nat} (K : am_ok X b_SE_codesIn R_SE 3 dd) {post : Option am_V → List am_C → Prop} (hr : am_rt X (some .int) post) {sp_SE_codeIn : am_S} {dd_SE_codeIn : Nat} (c_SE_codeIn : Con y_SE_codeIn b_SE_codeIn 3 (some .int) dd_SE_codeIn 0 0 false sp_SE_codeIn) (hdd_SE_codeIn : dd_SE_codeIn + 1 ≤ dd) {l2 : Int32} {l0 : Int64} {c0 c1 c2 c3 c4 c5 c6 c7 c8 c9 c10 c11 c12 c13 c14 c15 c16 c17 c18 c19 c20 c21 c22 c23 c24 c25 : am_C}
    (h : (7 ≤ l2 → post (some (aI l2)) [c0, c1, c2, c3, c4, c5, c6, c7, c8, c9, c10, c11, c12, c13, c14, c15, c16, c17, c18, c19, c20, c21, c22, c23, c24, c25]) ∧ (¬ 7 ≤ l2 → sp_SE_codeIn [aL l0, aI l2] [c0, c1, c2, c3, c4, c5, c6, c7, c8, c9, c10, c11, c12, c13, c14, c15, c16, c17, c18, c19, c20, c21, c22, c23, c24, c25] (fun rv w' => AW X 13 [some (aL l0), none, some (aI l2)] (rv.toList ++ []) w' bc bs))) :
    AW X 2 [some (aL l0), none, some (aI l2)] [] [c0, c1, c2, c3, c4, c5, c6, c7, c8, c9, c10, c11, c12, c13, c14, c15, c16, c17, c18, c19, c20, c21, c22, c23, c24, c25] bc bs := by
  refine aw_iload_n K d_SE_codesIn_2 rfl rfl ?_
  refine aw_bipush K d_SE_codesIn_3 rfl (v := 7) (by decide) ?_
  refine aw_icmp_ge K d_SE_codesIn_5 (t := 23) (by decide) rfl (fun q => ?_) (fun q => ?_)
  · replace h := h.1 q
    refine aw_iload_n K d_SE_codesIn_23 rfl rfl ?_
    exact aw_iret K hr d_SE_codesIn_24 h
  · replace h := h.2 q
    refine aw_lload_n K d_SE_codesIn_8 rfl rfl ?_
    refine aw_iload_n K d_SE_codesIn_9 rfl rfl ?_
    exact aw_callS K c_SE_codeIn cb_SE_144 ct_SE_codeIn hdd_SE_codeIn d_SE_codesIn_10 rfl (av := [aL l0, aI l2]) rfl (Nat.le_of_ble_eq_true rfl) h (fun rv w' hF => hF)
set_option maxRecDepth 20000 in
theorem x_SE_codesIn_13 {X : am_X} {dd bc bs : Nat} (K : am_ok X b_SE_codesIn R_SE 3 dd) {post : Option am_V → List am_C → Prop} (hr : am_rt X (some .int) post) {l2 s0 : Int32} {l0 : Int64} {c0 c1 c2 c3 c4 c5 c6 c7 c8 c9 c10 c11 c12 c13 c14 c15 c16 c17 c18 c19 c20 c21 c22 c23 c24 c25 : am_C}
    (h : (s0 = ((-1)) → post (some (aI l2)) [c0, c1, c2, c3, c4, c5, c6, c7, c8, c9, c10, c11, c12, c13, c14, c15, c16, c17, c18, c19, c20, c21, c22, c23, c24, c25]) ∧ (¬ s0 = ((-1)) → AW X 2 [some (aL l0), none, some (aI (l2 + 1))] [] [c0, c1, c2, c3, c4, c5, c6, c7, c8, c9, c10, c11, c12, c13, c14, c15, c16, c17, c18, c19, c20, c21, c22, c23, c24, c25] bc bs)) :
    AW X 13 [some (aL l0), none, some (aI l2)] [aI s0] [c0, c1, c2, c3, c4, c5, c6, c7, c8, c9, c10, c11, c12, c13, c14, c15, c16, c17, c18, c19, c20, c21, c22, c23, c24, c25] bc bs := by
  refine aw_iconst K d_SE_codesIn_13 rfl (v := (-1)) (by decide) ?_
  refine aw_icmp_eq K d_SE_codesIn_14 (t := 23) (by decide) rfl (fun q => ?_) (fun q => ?_)
  · replace h := h.1 q
    refine aw_iload_n K d_SE_codesIn_23 rfl rfl ?_
    exact aw_iret K hr d_SE_codesIn_24 h
  · replace h := h.2 q
    refine aw_iinc K d_SE_codesIn_17 rfl rfl (v := l2 + 1) rfl (by decide) (lv' := [some (aL l0), none, some (aI (l2 + 1))]) rfl ?_
    refine aw_goto K d_SE_codesIn_20 (n := 2) (by decide) ?_
    exact h
set_option maxRecDepth 20000 in
theorem x_SE_numberingsOf_0 {X : am_X} {dd bc bs : Nat} (K : am_ok X b_SE_numberingsOf R_SE 3 dd) {post : Option am_V → List am_C → Prop} (hr : am_rt X (some .int) post) {l0 : Int32} {c0 c1 c2 c3 c4 c5 c6 c7 c8 c9 c10 c11 c12 c13 c14 c15 c16 c17 c18 c19 c20 c21 c22 c23 c24 c25 : am_C}
    (h : AW X 4 [some (aI l0), some (aI 1), some (aI 2)] [] [c0, c1, c2, c3, c4, c5, c6, c7, c8, c9, c10, c11, c12, c13, c14, c15, c16, c17, c18, c19, c20, c21, c22, c23, c24, c25] bc bs) :
    AW X 0 [some (aI l0), none, none] [] [c0, c1, c2, c3, c4, c5, c6, c7, c8, c9, c10, c11, c12, c13, c14, c15, c16, c17, c18, c19, c20, c21, c22, c23, c24, c25] bc bs := by
  refine aw_iconst K d_SE_numberingsOf_0 rfl (v := 1) (by decide) ?_
  refine aw_istore_n K d_SE_numberingsOf_1 rfl (by decide) (lv' := [some (aI l0), some (aI 1), none]) rfl ?_
  refine aw_iconst K d_SE_numberingsOf_2 rfl (v := 2) (by decide) ?_
  refine aw_istore_n K d_SE_numberingsOf_3 rfl (by decide) (lv' := [some (aI l0), some (aI 1), some (aI 2)]) rfl ?_
  exact h
set_option maxRecDepth 20000 in
theorem x_SE_numberingsOf_4 {X : am_X} {dd bc bs : Nat} (K : am_ok X b_SE_numberingsOf R_SE 3 dd) {post : Option am_V → List am_C → Prop} (hr : am_rt X (some .int) post) (hd1 : 1 ≤ dd) {l0 l1 l2 : Int32} {c0 c1 c2 c3 c4 c5 c6 c7 c8 c9 c10 c11 c12 c13 c14 c15 c16 c17 c18 c19 c20 c21 c22 c23 c24 c25 : am_C}
    (h : (l0 < l2 → post (some (aI (if 24 < l1 then 24 else l1))) [c0, c1, c2, c3, c4, c5, c6, c7, c8, c9, c10, c11, c12, c13, c14, c15, c16, c17, c18, c19, c20, c21, c22, c23, c24, c25]) ∧ (¬ l0 < l2 → AW X 4 [some (aI l0), some (aI (l1 * l2)), some (aI (l2 + 1))] [] [c0, c1, c2, c3, c4, c5, c6, c7, c8, c9, c10, c11, c12, c13, c14, c15, c16, c17, c18, c19, c20, c21, c22, c23, c24, c25] bc bs)) :
    AW X 4 [some (aI l0), some (aI l1), some (aI l2)] [] [c0, c1, c2, c3, c4, c5, c6, c7, c8, c9, c10, c11, c12, c13, c14, c15, c16, c17, c18, c19, c20, c21, c22, c23, c24, c25] bc bs := by
  refine aw_iload_n K d_SE_numberingsOf_4 rfl rfl ?_
  refine aw_iload_n K d_SE_numberingsOf_5 rfl rfl ?_
  refine aw_icmp_gt K d_SE_numberingsOf_6 (t := 19) (by decide) rfl (fun q => ?_) (fun q => ?_)
  · replace h := h.1 q
    refine aw_iload_n K d_SE_numberingsOf_19 rfl rfl ?_
    refine aw_tabLen K sf_SE_189 d_SE_numberingsOf_20 d_SE_numberingsOf_23 rfl ?_
    refine aw_mmin K mm_SE_192 d_SE_numberingsOf_24 rfl (Nat.le_of_ble_eq_true rfl) hd1 ?_
    exact aw_iret K hr d_SE_numberingsOf_27 h
  · replace h := h.2 q
    refine aw_iload_n K d_SE_numberingsOf_9 rfl rfl ?_
    refine aw_iload_n K d_SE_numberingsOf_10 rfl rfl ?_
    refine aw_imul K d_SE_numberingsOf_11 rfl ?_
    refine aw_istore_n K d_SE_numberingsOf_12 rfl (by decide) (lv' := [some (aI l0), some (aI (l1 * l2)), some (aI l2)]) rfl ?_
    refine aw_iinc K d_SE_numberingsOf_13 rfl rfl (v := l2 + 1) rfl (by decide) (lv' := [some (aI l0), some (aI (l1 * l2)), some (aI (l2 + 1))]) rfl ?_
    refine aw_goto K d_SE_numberingsOf_16 (n := 4) (by decide) ?_
    exact h
set_option maxRecDepth 20000 in
theorem x_Dr_load_18_0 {X : am_X} {dd bc bs : Nat} (K : am_ok X b_Dr_load R_Dr 4 dd) {post : Option am_V → List am_C → Prop} (hr : am_rt X none post) {u_nodes u_numberings u_size u_symmetries : Int32} {l1 u_form : Int64} {u_states u_codes : Nat → Int32} {c0 c1 c2 c3 c4 c5 c6 c7 c8 c9 c10 c11 c12 c13 c14 c15 c16 c17 c21 c22 c23 c24 c25 : am_C}
    (h : AW X 2 [some (aR 18), some (aL l1), none, some (aI 0)] [] [c0, c1, c2, c3, c4, c5, c6, c7, c8, c9, c10, c11, c12, c13, c14, c15, c16, c17, oC 4 [aI u_nodes, aI u_numberings, aR 19, aR 20, aI u_size, aL u_form, aI u_symmetries, aR 21], iC 4 u_states, iC 7 u_codes, c21, c22, c23, c24, c25] bc bs) :
    AW X 0 [some (aR 18), some (aL l1), none, none] [] [c0, c1, c2, c3, c4, c5, c6, c7, c8, c9, c10, c11, c12, c13, c14, c15, c16, c17, oC 4 [aI u_nodes, aI u_numberings, aR 19, aR 20, aI u_size, aL u_form, aI u_symmetries, aR 21], iC 4 u_states, iC 7 u_codes, c21, c22, c23, c24, c25] bc bs := by
  refine aw_iconst K d_Dr_load_0 rfl (v := 0) (by decide) ?_
  refine aw_istore_n K d_Dr_load_1 rfl (by decide) (lv' := [some (aR 18), some (aL l1), none, some (aI 0)]) rfl ?_
  exact h
set_option maxRecDepth 20000 in
theorem x_Dr_load_18_2 {X : am_X} {dd bc bs : Nat} (K : am_ok X b_Dr_load R_Dr 4 dd) {post : Option am_V → List am_C → Prop} (hr : am_rt X none post) {sp_SE_codesIn : am_S} {dd_SE_codesIn : Nat} (c_SE_codesIn : Con y_SE_codesIn b_SE_codesIn 3 (some .int) dd_SE_codesIn 0 0 false sp_SE_codesIn) (hdd_SE_codesIn : dd_SE_codesIn + 1 ≤ dd) {sp_SE_stateIn : am_S} {dd_SE_stateIn : Nat} (c_SE_stateIn : Con y_SE_stateIn b_SE_stateIn 3 (some .int) dd_SE_stateIn 0 0 false sp_SE_stateIn) (hdd_SE_stateIn : dd_SE_stateIn + 1 ≤ dd) {l3 u_nodes u_numberings u_size u_symmetries : Int32} {l1 u_form : Int64} {u_states u_codes : Nat → Int32} {c0 c1 c2 c3 c4 c5 c6 c7 c8 c9 c10 c11 c12 c13 c14 c15 c16 c17 c21 c22 c23 c24 c25 : am_C}
    (h : (u_nodes ≤ l3 → sp_SE_codesIn [aL l1] [c0, c1, c2, c3, c4, c5, c6, c7, c8, c9, c10, c11, c12, c13, c14, c15, c16, c17, oC 4 [aI u_nodes, aI u_numberings, aR 19, aR 20, aI u_size, aL u_form, aI u_symmetries, aR 21], iC 4 u_states, iC 7 u_codes, c21, c22, c23, c24, c25] (fun rv w' => AW X 32 [some (aR 18), some (aL l1), none, none] (rv.toList ++ [aR 18]) w' bc bs)) ∧ (¬ u_nodes ≤ l3 → sp_SE_stateIn [aL l1, aI l3] [c0, c1, c2, c3, c4, c5, c6, c7, c8, c9, c10, c11, c12, c13, c14, c15, c16, c17, oC 4 [aI u_nodes, aI u_numberings, aR 19, aR 20, aI u_size, aL u_form, aI u_symmetries, aR 21], iC 4 u_states, iC 7 u_codes, c21, c22, c23, c24, c25] (fun rv w' => AW X 20 [some (aR 18), some (aL l1), none, some (aI l3)] (rv.toList ++ [aI l3, aR 19]) w' bc bs))) :
    AW X 2 [some (aR 18), some (aL l1), none, some (aI l3)] [] [c0, c1, c2, c3, c4, c5, c6, c7, c8, c9, c10, c11, c12, c13, c14, c15, c16, c17, oC 4 [aI u_nodes, aI u_numberings, aR 19, aR 20, aI u_size, aL u_form, aI u_symmetries, aR 21], iC 4 u_states, iC 7 u_codes, c21, c22, c23, c24, c25] bc bs := by
  refine aw_iload_n K d_Dr_load_2 rfl rfl ?_
  refine aw_aload_n K d_Dr_load_3 rfl rfl ?_
  refine aw_getf K fd_Dr_32 d_Dr_load_4 rfl rfl rfl ?_
  refine aw_icmp_ge K d_Dr_load_7 (t := 27) (by decide) rfl (fun q => ?_) (fun q => ?_)
  · replace h := h.1 q
    refine aw_aload_n K d_Dr_load_27 rfl rfl ?_
    refine aw_lload_n K d_Dr_load_28 rfl rfl ?_
    refine aw_less [3] rfl ?_
    exact aw_callSN K c_SE_codesIn cb_Dr_46 ct_SE_codesIn hdd_SE_codesIn d_Dr_load_29 rfl (av := [aL l1]) rfl (Nat.le_of_ble_eq_true rfl) h (fun rv w' hF => hF)
  · replace h := h.2 q
    refine aw_aload_n K d_Dr_load_10 rfl rfl ?_
    refine aw_getf K fd_Dr_9 d_Dr_load_11 rfl rfl rfl ?_
    refine aw_iload_n K d_Dr_load_14 rfl rfl ?_
    refine aw_lload_n K d_Dr_load_15 rfl rfl ?_
    refine aw_iload_n K d_Dr_load_16 rfl rfl ?_
    exact aw_callSN K c_SE_stateIn cb_Dr_42 ct_SE_stateIn hdd_SE_stateIn d_Dr_load_17 rfl (av := [aL l1, aI l3]) rfl (Nat.le_of_ble_eq_true rfl) h (fun rv w' hF => hF)
set_option maxRecDepth 20000 in
theorem x_Dr_load_18_20 {X : am_X} {dd bc bs : Nat} (K : am_ok X b_Dr_load R_Dr 4 dd) {post : Option am_V → List am_C → Prop} (hr : am_rt X none post) {l3 s0 s1 u_nodes u_numberings u_size u_symmetries : Int32} {l1 u_form : Int64} {u_states u_codes : Nat → Int32} {c0 c1 c2 c3 c4 c5 c6 c7 c8 c9 c10 c11 c12 c13 c14 c15 c16 c17 c21 c22 c23 c24 c25 : am_C}
    (h : vp_in s1 4 ∧ AW X 2 [some (aR 18), some (aL l1), none, some (aI (l3 + 1))] [] [c0, c1, c2, c3, c4, c5, c6, c7, c8, c9, c10, c11, c12, c13, c14, c15, c16, c17, oC 4 [aI u_nodes, aI u_numberings, aR 19, aR 20, aI u_size, aL u_form, aI u_symmetries, aR 21], iC 4 (upd u_states s1.toNatClampNeg s0), iC 7 u_codes, c21, c22, c23, c24, c25] bc bs) :
    AW X 20 [some (aR 18), some (aL l1), none, some (aI l3)] [aI s0, aI s1, aR 19] [c0, c1, c2, c3, c4, c5, c6, c7, c8, c9, c10, c11, c12, c13, c14, c15, c16, c17, oC 4 [aI u_nodes, aI u_numberings, aR 19, aR 20, aI u_size, aL u_form, aI u_symmetries, aR 21], iC 4 u_states, iC 7 u_codes, c21, c22, c23, c24, c25] bc bs := by
  refine aw_iast K d_Dr_load_20 rfl rfl h.1 (w' := [c0, c1, c2, c3, c4, c5, c6, c7, c8, c9, c10, c11, c12, c13, c14, c15, c16, c17, oC 4 [aI u_nodes, aI u_numberings, aR 19, aR 20, aI u_size, aL u_form, aI u_symmetries, aR 21], iC 4 (upd u_states s1.toNatClampNeg s0), iC 7 u_codes, c21, c22, c23, c24, c25]) rfl ?_
  replace h := h.2
  refine aw_iinc K d_Dr_load_21 rfl rfl (v := l3 + 1) rfl (by decide) (lv' := [some (aR 18), some (aL l1), none, some (aI (l3 + 1))]) rfl ?_
  refine aw_goto K d_Dr_load_24 (n := 2) (by decide) ?_
  exact h
set_option maxRecDepth 20000 in
theorem x_Dr_load_18_32 {X : am_X} {dd bc bs : Nat} (K : am_ok X b_Dr_load R_Dr 4 dd) {post : Option am_V → List am_C → Prop} (hr : am_rt X none post) {s0 u_nodes u_numberings u_size u_symmetries : Int32} {l1 u_form : Int64} {u_states u_codes : Nat → Int32} {c0 c1 c2 c3 c4 c5 c6 c7 c8 c9 c10 c11 c12 c13 c14 c15 c16 c17 c21 c22 c23 c24 c25 : am_C}
    (h : AW X 37 [some (aR 18), some (aL l1), none, some (aI 0)] [] [c0, c1, c2, c3, c4, c5, c6, c7, c8, c9, c10, c11, c12, c13, c14, c15, c16, c17, oC 4 [aI u_nodes, aI u_numberings, aR 19, aR 20, aI s0, aL u_form, aI u_symmetries, aR 21], iC 4 u_states, iC 7 u_codes, c21, c22, c23, c24, c25] bc bs) :
    AW X 32 [some (aR 18), some (aL l1), none, none] [aI s0, aR 18] [c0, c1, c2, c3, c4, c5, c6, c7, c8, c9, c10, c11, c12, c13, c14, c15, c16, c17, oC 4 [aI u_nodes, aI u_numberings, aR 19, aR 20, aI u_size, aL u_form, aI u_symmetries, aR 21], iC 4 u_states, iC 7 u_codes, c21, c22, c23, c24, c25] bc bs := by
  refine aw_putf K fp_Dr_18 d_Dr_load_32 rfl rfl (Nat.le_of_ble_eq_true rfl) (am_fit_i _) (w' := [c0, c1, c2, c3, c4, c5, c6, c7, c8, c9, c10, c11, c12, c13, c14, c15, c16, c17, oC 4 [aI u_nodes, aI u_numberings, aR 19, aR 20, aI s0, aL u_form, aI u_symmetries, aR 21], iC 4 u_states, iC 7 u_codes, c21, c22, c23, c24, c25]) rfl ?_
  refine aw_iconst K d_Dr_load_35 rfl (v := 0) (by decide) ?_
  refine aw_istore_n K d_Dr_load_36 rfl (by decide) (lv' := [some (aR 18), some (aL l1), none, some (aI 0)]) rfl ?_
  exact h
set_option maxRecDepth 20000 in
theorem x_Dr_load_18_37 {X : am_X} {dd bc bs : Nat} (K : am_ok X b_Dr_load R_Dr 4 dd) {post : Option am_V → List am_C → Prop} (hr : am_rt X none post) {sp_SE_codeIn : am_S} {dd_SE_codeIn : Nat} (c_SE_codeIn : Con y_SE_codeIn b_SE_codeIn 3 (some .int) dd_SE_codeIn 0 0 false sp_SE_codeIn) (hdd_SE_codeIn : dd_SE_codeIn + 1 ≤ dd) {l3 u_nodes u_numberings u_size u_symmetries : Int32} {l1 u_form : Int64} {u_states u_codes : Nat → Int32} {c0 c1 c2 c3 c4 c5 c6 c7 c8 c9 c10 c11 c12 c13 c14 c15 c16 c17 c21 c22 c23 c24 c25 : am_C}
    (h : (u_size ≤ l3 → post none [c0, c1, c2, c3, c4, c5, c6, c7, c8, c9, c10, c11, c12, c13, c14, c15, c16, c17, oC 4 [aI u_nodes, aI u_numberings, aR 19, aR 20, aI u_size, aL u_form, aI u_symmetries, aR 21], iC 4 u_states, iC 7 u_codes, c21, c22, c23, c24, c25]) ∧ (¬ u_size ≤ l3 → sp_SE_codeIn [aL l1, aI l3] [c0, c1, c2, c3, c4, c5, c6, c7, c8, c9, c10, c11, c12, c13, c14, c15, c16, c17, oC 4 [aI u_nodes, aI u_numberings, aR 19, aR 20, aI u_size, aL u_form, aI u_symmetries, aR 21], iC 4 u_states, iC 7 u_codes, c21, c22, c23, c24, c25] (fun rv w' => AW X 55 [some (aR 18), some (aL l1), none, some (aI l3)] (rv.toList ++ [aI l3, aR 20]) w' bc bs))) :
    AW X 37 [some (aR 18), some (aL l1), none, some (aI l3)] [] [c0, c1, c2, c3, c4, c5, c6, c7, c8, c9, c10, c11, c12, c13, c14, c15, c16, c17, oC 4 [aI u_nodes, aI u_numberings, aR 19, aR 20, aI u_size, aL u_form, aI u_symmetries, aR 21], iC 4 u_states, iC 7 u_codes, c21, c22, c23, c24, c25] bc bs := by
  refine aw_iload_n K d_Dr_load_37 rfl rfl ?_
  refine aw_aload_n K d_Dr_load_38 rfl rfl ?_
  refine aw_getf K fd_Dr_18 d_Dr_load_39 rfl rfl rfl ?_
  refine aw_icmp_ge K d_Dr_load_42 (t := 62) (by decide) rfl (fun q => ?_) (fun q => ?_)
  · replace h := h.1 q
    exact aw_vret K hr d_Dr_load_62 h
  · replace h := h.2 q
    refine aw_aload_n K d_Dr_load_45 rfl rfl ?_
    refine aw_getf K fd_Dr_15 d_Dr_load_46 rfl rfl rfl ?_
    refine aw_iload_n K d_Dr_load_49 rfl rfl ?_
    refine aw_lload_n K d_Dr_load_50 rfl rfl ?_
    refine aw_iload_n K d_Dr_load_51 rfl rfl ?_
    exact aw_callSN K c_SE_codeIn cb_Dr_50 ct_SE_codeIn hdd_SE_codeIn d_Dr_load_52 rfl (av := [aL l1, aI l3]) rfl (Nat.le_of_ble_eq_true rfl) h (fun rv w' hF => hF)
set_option maxRecDepth 20000 in
theorem x_Dr_load_18_55 {X : am_X} {dd bc bs : Nat} (K : am_ok X b_Dr_load R_Dr 4 dd) {post : Option am_V → List am_C → Prop} (hr : am_rt X none post) {l3 s0 s1 u_nodes u_numberings u_size u_symmetries : Int32} {l1 u_form : Int64} {u_states u_codes : Nat → Int32} {c0 c1 c2 c3 c4 c5 c6 c7 c8 c9 c10 c11 c12 c13 c14 c15 c16 c17 c21 c22 c23 c24 c25 : am_C}
    (h : vp_in s1 7 ∧ AW X 37 [some (aR 18), some (aL l1), none, some (aI (l3 + 1))] [] [c0, c1, c2, c3, c4, c5, c6, c7, c8, c9, c10, c11, c12, c13, c14, c15, c16, c17, oC 4 [aI u_nodes, aI u_numberings, aR 19, aR 20, aI u_size, aL u_form, aI u_symmetries, aR 21], iC 4 u_states, iC 7 (upd u_codes s1.toNatClampNeg s0), c21, c22, c23, c24, c25] bc bs) :
    AW X 55 [some (aR 18), some (aL l1), none, some (aI l3)] [aI s0, aI s1, aR 20] [c0, c1, c2, c3, c4, c5, c6, c7, c8, c9, c10, c11, c12, c13, c14, c15, c16, c17, oC 4 [aI u_nodes, aI u_numberings, aR 19, aR 20, aI u_size, aL u_form, aI u_symmetries, aR 21], iC 4 u_states, iC 7 u_codes, c21, c22, c23, c24, c25] bc bs := by
  refine aw_iast K d_Dr_load_55 rfl rfl h.1 (w' := [c0, c1, c2, c3, c4, c5, c6, c7, c8, c9, c10, c11, c12, c13, c14, c15, c16, c17, oC 4 [aI u_nodes, aI u_numberings, aR 19, aR 20, aI u_size, aL u_form, aI u_symmetries, aR 21], iC 4 u_states, iC 7 (upd u_codes s1.toNatClampNeg s0), c21, c22, c23, c24, c25]) rfl ?_
  replace h := h.2
  refine aw_iinc K d_Dr_load_56 rfl rfl (v := l3 + 1) rfl (by decide) (lv' := [some (aR 18), some (aL l1), none, some (aI (l3 + 1))]) rfl ?_
  refine aw_goto K d_Dr_load_59 (n := 37) (by decide) ?_
  exact h
set_option maxRecDepth 20000 in
theorem x_Dr_load_22_0 {X : am_X} {dd bc bs : Nat} (K : am_ok X b_Dr_load R_Dr 4 dd) {post : Option am_V → List am_C → Prop} (hr : am_rt X none post) {v_nodes v_numberings v_size v_symmetries : Int32} {l1 v_form : Int64} {v_states v_codes : Nat → Int32} {c0 c1 c2 c3 c4 c5 c6 c7 c8 c9 c10 c11 c12 c13 c14 c15 c16 c17 c18 c19 c20 c21 c25 : am_C}
    (h : AW X 2 [some (aR 22), some (aL l1), none, some (aI 0)] [] [c0, c1, c2, c3, c4, c5, c6, c7, c8, c9, c10, c11, c12, c13, c14, c15, c16, c17, c18, c19, c20, c21, oC 4 [aI v_nodes, aI v_numberings, aR 23, aR 24, aI v_size, aL v_form, aI v_symmetries, aR 25], iC 4 v_states, iC 7 v_codes, c25] bc bs) :
    AW X 0 [some (aR 22), some (aL l1), none, none] [] [c0, c1, c2, c3, c4, c5, c6, c7, c8, c9, c10, c11, c12, c13, c14, c15, c16, c17, c18, c19, c20, c21, oC 4 [aI v_nodes, aI v_numberings, aR 23, aR 24, aI v_size, aL v_form, aI v_symmetries, aR 25], iC 4 v_states, iC 7 v_codes, c25] bc bs := by
  refine aw_iconst K d_Dr_load_0 rfl (v := 0) (by decide) ?_
  refine aw_istore_n K d_Dr_load_1 rfl (by decide) (lv' := [some (aR 22), some (aL l1), none, some (aI 0)]) rfl ?_
  exact h
set_option maxRecDepth 20000 in
theorem x_Dr_load_22_2 {X : am_X} {dd bc bs : Nat} (K : am_ok X b_Dr_load R_Dr 4 dd) {post : Option am_V → List am_C → Prop} (hr : am_rt X none post) {sp_SE_codesIn : am_S} {dd_SE_codesIn : Nat} (c_SE_codesIn : Con y_SE_codesIn b_SE_codesIn 3 (some .int) dd_SE_codesIn 0 0 false sp_SE_codesIn) (hdd_SE_codesIn : dd_SE_codesIn + 1 ≤ dd) {sp_SE_stateIn : am_S} {dd_SE_stateIn : Nat} (c_SE_stateIn : Con y_SE_stateIn b_SE_stateIn 3 (some .int) dd_SE_stateIn 0 0 false sp_SE_stateIn) (hdd_SE_stateIn : dd_SE_stateIn + 1 ≤ dd) {l3 v_nodes v_numberings v_size v_symmetries : Int32} {l1 v_form : Int64} {v_states v_codes : Nat → Int32} {c0 c1 c2 c3 c4 c5 c6 c7 c8 c9 c10 c11 c12 c13 c14 c15 c16 c17 c18 c19 c20 c21 c25 : am_C}
    (h : (v_nodes ≤ l3 → sp_SE_codesIn [aL l1] [c0, c1, c2, c3, c4, c5, c6, c7, c8, c9, c10, c11, c12, c13, c14, c15, c16, c17, c18, c19, c20, c21, oC 4 [aI v_nodes, aI v_numberings, aR 23, aR 24, aI v_size, aL v_form, aI v_symmetries, aR 25], iC 4 v_states, iC 7 v_codes, c25] (fun rv w' => AW X 32 [some (aR 22), some (aL l1), none, none] (rv.toList ++ [aR 22]) w' bc bs)) ∧ (¬ v_nodes ≤ l3 → sp_SE_stateIn [aL l1, aI l3] [c0, c1, c2, c3, c4, c5, c6, c7, c8, c9, c10, c11, c12, c13, c14, c15, c16, c17, c18, c19, c20, c21, oC 4 [aI v_nodes, aI v_numberings, aR 23, aR 24, aI v_size, aL v_form, aI v_symmetries, aR 25], iC 4 v_states, iC 7 v_codes, c25] (fun rv w' => AW X 20 [some (aR 22), some (aL l1), none, some (aI l3)] (rv.toList ++ [aI l3, aR 23]) w' bc bs))) :
    AW X 2 [some (aR 22), some (aL l1), none, some (aI l3)] [] [c0, c1, c2, c3, c4, c5, c6, c7, c8, c9, c10, c11, c12, c13, c14, c15, c16, c17, c18, c19, c20, c21, oC 4 [aI v_nodes, aI v_numberings, aR 23, aR 24, aI v_size, aL v_form, aI v_symmetries, aR 25], iC 4 v_states, iC 7 v_codes, c25] bc bs := by
  refine aw_iload_n K d_Dr_load_2 rfl rfl ?_
  refine aw_aload_n K d_Dr_load_3 rfl rfl ?_
  refine aw_getf K fd_Dr_32 d_Dr_load_4 rfl rfl rfl ?_
  refine aw_icmp_ge K d_Dr_load_7 (t := 27) (by decide) rfl (fun q => ?_) (fun q => ?_)
  · replace h := h.1 q
    refine aw_aload_n K d_Dr_load_27 rfl rfl ?_
    refine aw_lload_n K d_Dr_load_28 rfl rfl ?_
    refine aw_less [3] rfl ?_
    exact aw_callSN K c_SE_codesIn cb_Dr_46 ct_SE_codesIn hdd_SE_codesIn d_Dr_load_29 rfl (av := [aL l1]) rfl (Nat.le_of_ble_eq_true rfl) h (fun rv w' hF => hF)
  · replace h := h.2 q
    refine aw_aload_n K d_Dr_load_10 rfl rfl ?_
    refine aw_getf K fd_Dr_9 d_Dr_load_11 rfl rfl rfl ?_
    refine aw_iload_n K d_Dr_load_14 rfl rfl ?_
    refine aw_lload_n K d_Dr_load_15 rfl rfl ?_
    refine aw_iload_n K d_Dr_load_16 rfl rfl ?_
    exact aw_callSN K c_SE_stateIn cb_Dr_42 ct_SE_stateIn hdd_SE_stateIn d_Dr_load_17 rfl (av := [aL l1, aI l3]) rfl (Nat.le_of_ble_eq_true rfl) h (fun rv w' hF => hF)
set_option maxRecDepth 20000 in
theorem x_Dr_load_22_20 {X : am_X} {dd bc bs : Nat} (K : am_ok X b_Dr_load R_Dr 4 dd) {post : Option am_V → List am_C → Prop} (hr : am_rt X none post) {l3 s0 s1 v_nodes v_numberings v_size v_symmetries : Int32} {l1 v_form : Int64} {v_states v_codes : Nat → Int32} {c0 c1 c2 c3 c4 c5 c6 c7 c8 c9 c10 c11 c12 c13 c14 c15 c16 c17 c18 c19 c20 c21 c25 : am_C}
    (h : vp_in s1 4 ∧ AW X 2 [some (aR 22), some (aL l1), none, some (aI (l3 + 1))] [] [c0, c1, c2, c3, c4, c5, c6, c7, c8, c9, c10, c11, c12, c13, c14, c15, c16, c17, c18, c19, c20, c21, oC 4 [aI v_nodes, aI v_numberings, aR 23, aR 24, aI v_size, aL v_form, aI v_symmetries, aR 25], iC 4 (upd v_states s1.toNatClampNeg s0), iC 7 v_codes, c25] bc bs) :
    AW X 20 [some (aR 22), some (aL l1), none, some (aI l3)] [aI s0, aI s1, aR 23] [c0, c1, c2, c3, c4, c5, c6, c7, c8, c9, c10, c11, c12, c13, c14, c15, c16, c17, c18, c19, c20, c21, oC 4 [aI v_nodes, aI v_numberings, aR 23, aR 24, aI v_size, aL v_form, aI v_symmetries, aR 25], iC 4 v_states, iC 7 v_codes, c25] bc bs := by
  refine aw_iast K d_Dr_load_20 rfl rfl h.1 (w' := [c0, c1, c2, c3, c4, c5, c6, c7, c8, c9, c10, c11, c12, c13, c14, c15, c16, c17, c18, c19, c20, c21, oC 4 [aI v_nodes, aI v_numberings, aR 23, aR 24, aI v_size, aL v_form, aI v_symmetries, aR 25], iC 4 (upd v_states s1.toNatClampNeg s0), iC 7 v_codes, c25]) rfl ?_
  replace h := h.2
  refine aw_iinc K d_Dr_load_21 rfl rfl (v := l3 + 1) rfl (by decide) (lv' := [some (aR 22), some (aL l1), none, some (aI (l3 + 1))]) rfl ?_
  refine aw_goto K d_Dr_load_24 (n := 2) (by decide) ?_
  exact h
set_option maxRecDepth 20000 in
theorem x_Dr_load_22_32 {X : am_X} {dd bc bs : Nat} (K : am_ok X b_Dr_load R_Dr 4 dd) {post : Option am_V → List am_C → Prop} (hr : am_rt X none post) {s0 v_nodes v_numberings v_size v_symmetries : Int32} {l1 v_form : Int64} {v_states v_codes : Nat → Int32} {c0 c1 c2 c3 c4 c5 c6 c7 c8 c9 c10 c11 c12 c13 c14 c15 c16 c17 c18 c19 c20 c21 c25 : am_C}
    (h : AW X 37 [some (aR 22), some (aL l1), none, some (aI 0)] [] [c0, c1, c2, c3, c4, c5, c6, c7, c8, c9, c10, c11, c12, c13, c14, c15, c16, c17, c18, c19, c20, c21, oC 4 [aI v_nodes, aI v_numberings, aR 23, aR 24, aI s0, aL v_form, aI v_symmetries, aR 25], iC 4 v_states, iC 7 v_codes, c25] bc bs) :
    AW X 32 [some (aR 22), some (aL l1), none, none] [aI s0, aR 22] [c0, c1, c2, c3, c4, c5, c6, c7, c8, c9, c10, c11, c12, c13, c14, c15, c16, c17, c18, c19, c20, c21, oC 4 [aI v_nodes, aI v_numberings, aR 23, aR 24, aI v_size, aL v_form, aI v_symmetries, aR 25], iC 4 v_states, iC 7 v_codes, c25] bc bs := by
  refine aw_putf K fp_Dr_18 d_Dr_load_32 rfl rfl (Nat.le_of_ble_eq_true rfl) (am_fit_i _) (w' := [c0, c1, c2, c3, c4, c5, c6, c7, c8, c9, c10, c11, c12, c13, c14, c15, c16, c17, c18, c19, c20, c21, oC 4 [aI v_nodes, aI v_numberings, aR 23, aR 24, aI s0, aL v_form, aI v_symmetries, aR 25], iC 4 v_states, iC 7 v_codes, c25]) rfl ?_
  refine aw_iconst K d_Dr_load_35 rfl (v := 0) (by decide) ?_
  refine aw_istore_n K d_Dr_load_36 rfl (by decide) (lv' := [some (aR 22), some (aL l1), none, some (aI 0)]) rfl ?_
  exact h
set_option maxRecDepth 20000 in
theorem x_Dr_load_22_37 {X : am_X} {dd bc bs : Nat} (K : am_ok X b_Dr_load R_Dr 4 dd) {post : Option am_V → List am_C → Prop} (hr : am_rt X none post) {sp_SE_codeIn : am_S} {dd_SE_codeIn : Nat} (c_SE_codeIn : Con y_SE_codeIn b_SE_codeIn 3 (some .int) dd_SE_codeIn 0 0 false sp_SE_codeIn) (hdd_SE_codeIn : dd_SE_codeIn + 1 ≤ dd) {l3 v_nodes v_numberings v_size v_symmetries : Int32} {l1 v_form : Int64} {v_states v_codes : Nat → Int32} {c0 c1 c2 c3 c4 c5 c6 c7 c8 c9 c10 c11 c12 c13 c14 c15 c16 c17 c18 c19 c20 c21 c25 : am_C}
    (h : (v_size ≤ l3 → post none [c0, c1, c2, c3, c4, c5, c6, c7, c8, c9, c10, c11, c12, c13, c14, c15, c16, c17, c18, c19, c20, c21, oC 4 [aI v_nodes, aI v_numberings, aR 23, aR 24, aI v_size, aL v_form, aI v_symmetries, aR 25], iC 4 v_states, iC 7 v_codes, c25]) ∧ (¬ v_size ≤ l3 → sp_SE_codeIn [aL l1, aI l3] [c0, c1, c2, c3, c4, c5, c6, c7, c8, c9, c10, c11, c12, c13, c14, c15, c16, c17, c18, c19, c20, c21, oC 4 [aI v_nodes, aI v_numberings, aR 23, aR 24, aI v_size, aL v_form, aI v_symmetries, aR 25], iC 4 v_states, iC 7 v_codes, c25] (fun rv w' => AW X 55 [some (aR 22), some (aL l1), none, some (aI l3)] (rv.toList ++ [aI l3, aR 24]) w' bc bs))) :
    AW X 37 [some (aR 22), some (aL l1), none, some (aI l3)] [] [c0, c1, c2, c3, c4, c5, c6, c7, c8, c9, c10, c11, c12, c13, c14, c15, c16, c17, c18, c19, c20, c21, oC 4 [aI v_nodes, aI v_numberings, aR 23, aR 24, aI v_size, aL v_form, aI v_symmetries, aR 25], iC 4 v_states, iC 7 v_codes, c25] bc bs := by
  refine aw_iload_n K d_Dr_load_37 rfl rfl ?_
  refine aw_aload_n K d_Dr_load_38 rfl rfl ?_
  refine aw_getf K fd_Dr_18 d_Dr_load_39 rfl rfl rfl ?_
  refine aw_icmp_ge K d_Dr_load_42 (t := 62) (by decide) rfl (fun q => ?_) (fun q => ?_)
  · replace h := h.1 q
    exact aw_vret K hr d_Dr_load_62 h
  · replace h := h.2 q
    refine aw_aload_n K d_Dr_load_45 rfl rfl ?_
    refine aw_getf K fd_Dr_15 d_Dr_load_46 rfl rfl rfl ?_
    refine aw_iload_n K d_Dr_load_49 rfl rfl ?_
    refine aw_lload_n K d_Dr_load_50 rfl rfl ?_
    refine aw_iload_n K d_Dr_load_51 rfl rfl ?_
    exact aw_callSN K c_SE_codeIn cb_Dr_50 ct_SE_codeIn hdd_SE_codeIn d_Dr_load_52 rfl (av := [aL l1, aI l3]) rfl (Nat.le_of_ble_eq_true rfl) h (fun rv w' hF => hF)
set_option maxRecDepth 20000 in
theorem x_Dr_load_22_55 {X : am_X} {dd bc bs : Nat} (K : am_ok X b_Dr_load R_Dr 4 dd) {post : Option am_V → List am_C → Prop} (hr : am_rt X none post) {l3 s0 s1 v_nodes v_numberings v_size v_symmetries : Int32} {l1 v_form : Int64} {v_states v_codes : Nat → Int32} {c0 c1 c2 c3 c4 c5 c6 c7 c8 c9 c10 c11 c12 c13 c14 c15 c16 c17 c18 c19 c20 c21 c25 : am_C}
    (h : vp_in s1 7 ∧ AW X 37 [some (aR 22), some (aL l1), none, some (aI (l3 + 1))] [] [c0, c1, c2, c3, c4, c5, c6, c7, c8, c9, c10, c11, c12, c13, c14, c15, c16, c17, c18, c19, c20, c21, oC 4 [aI v_nodes, aI v_numberings, aR 23, aR 24, aI v_size, aL v_form, aI v_symmetries, aR 25], iC 4 v_states, iC 7 (upd v_codes s1.toNatClampNeg s0), c25] bc bs) :
    AW X 55 [some (aR 22), some (aL l1), none, some (aI l3)] [aI s0, aI s1, aR 24] [c0, c1, c2, c3, c4, c5, c6, c7, c8, c9, c10, c11, c12, c13, c14, c15, c16, c17, c18, c19, c20, c21, oC 4 [aI v_nodes, aI v_numberings, aR 23, aR 24, aI v_size, aL v_form, aI v_symmetries, aR 25], iC 4 v_states, iC 7 v_codes, c25] bc bs := by
  refine aw_iast K d_Dr_load_55 rfl rfl h.1 (w' := [c0, c1, c2, c3, c4, c5, c6, c7, c8, c9, c10, c11, c12, c13, c14, c15, c16, c17, c18, c19, c20, c21, oC 4 [aI v_nodes, aI v_numberings, aR 23, aR 24, aI v_size, aL v_form, aI v_symmetries, aR 25], iC 4 v_states, iC 7 (upd v_codes s1.toNatClampNeg s0), c25]) rfl ?_
  replace h := h.2
  refine aw_iinc K d_Dr_load_56 rfl rfl (v := l3 + 1) rfl (by decide) (lv' := [some (aR 22), some (aL l1), none, some (aI (l3 + 1))]) rfl ?_
  refine aw_goto K d_Dr_load_59 (n := 37) (by decide) ?_
  exact h
set_option maxRecDepth 20000 in
theorem x_Dr_copyOf_0 {X : am_X} {dd bc bs : Nat} (K : am_ok X b_Dr_copyOf R_Dr 2 dd) {post : Option am_V → List am_C → Prop} (hr : am_rt X none post) (hd1 : 1 ≤ dd) {u_nodes u_numberings u_size u_symmetries v_nodes v_numberings v_size v_symmetries : Int32} {u_form v_form : Int64} {u_states u_codes v_states v_codes : Nat → Int32} {c0 c1 c2 c3 c4 c5 c6 c7 c8 c9 c10 c11 c12 c13 c14 c15 c16 c17 c21 c25 : am_C}
    (h : post none [c0, c1, c2, c3, c4, c5, c6, c7, c8, c9, c10, c11, c12, c13, c14, c15, c16, c17, oC 4 [aI u_nodes, aI u_numberings, aR 19, aR 20, aI u_size, aL u_form, aI u_symmetries, aR 21], iC 4 u_states, iC 7 u_codes, c21, oC 4 [aI v_nodes, aI v_numberings, aR 23, aR 24, aI u_size, aL v_form, aI v_symmetries, aR 25], iC 4 (va_cpy u_states v_states (0 : Int32).toNatClampNeg (0 : Int32).toNatClampNeg (4 : Int32).toNatClampNeg), iC 7 (va_cpy u_codes v_codes (0 : Int32).toNatClampNeg (0 : Int32).toNatClampNeg (7 : Int32).toNatClampNeg), c25]) :
    AW X 0 [some (aR 22), some (aR 18)] [] [c0, c1, c2, c3, c4, c5, c6, c7, c8, c9, c10, c11, c12, c13, c14, c15, c16, c17, oC 4 [aI u_nodes, aI u_numberings, aR 19, aR 20, aI u_size, aL u_form, aI u_symmetries, aR 21], iC 4 u_states, iC 7 u_codes, c21, oC 4 [aI v_nodes, aI v_numberings, aR 23, aR 24, aI v_size, aL v_form, aI v_symmetries, aR 25], iC 4 v_states, iC 7 v_codes, c25] bc bs := by
  refine aw_aload_n K d_Dr_copyOf_0 rfl rfl ?_
  refine aw_getf K fd_Dr_9 d_Dr_copyOf_1 rfl rfl rfl ?_
  refine aw_iconst K d_Dr_copyOf_4 rfl (v := 0) (by decide) ?_
  refine aw_aload_n K d_Dr_copyOf_5 rfl rfl ?_
  refine aw_getf K fd_Dr_9 d_Dr_copyOf_6 rfl rfl rfl ?_
  refine aw_iconst K d_Dr_copyOf_9 rfl (v := 0) (by decide) ?_
  refine aw_iconst K d_Dr_copyOf_10 rfl (v := 4) (by decide) ?_
  refine aw_copyi K mm_Dr_53 d_Dr_copyOf_11 rfl rfl rfl (by decide) (by decide) (by decide) (by decide) (by decide) (Nat.le_of_ble_eq_true rfl) hd1 (w' := [c0, c1, c2, c3, c4, c5, c6, c7, c8, c9, c10, c11, c12, c13, c14, c15, c16, c17, oC 4 [aI u_nodes, aI u_numberings, aR 19, aR 20, aI u_size, aL u_form, aI u_symmetries, aR 21], iC 4 u_states, iC 7 u_codes, c21, oC 4 [aI v_nodes, aI v_numberings, aR 23, aR 24, aI v_size, aL v_form, aI v_symmetries, aR 25], iC 4 (va_cpy u_states v_states (0 : Int32).toNatClampNeg (0 : Int32).toNatClampNeg (4 : Int32).toNatClampNeg), iC 7 v_codes, c25]) rfl ?_
  refine aw_aload_n K d_Dr_copyOf_14 rfl rfl ?_
  refine aw_getf K fd_Dr_15 d_Dr_copyOf_15 rfl rfl rfl ?_
  refine aw_iconst K d_Dr_copyOf_18 rfl (v := 0) (by decide) ?_
  refine aw_aload_n K d_Dr_copyOf_19 rfl rfl ?_
  refine aw_getf K fd_Dr_15 d_Dr_copyOf_20 rfl rfl rfl ?_
  refine aw_iconst K d_Dr_copyOf_23 rfl (v := 0) (by decide) ?_
  refine aw_bipush K d_Dr_copyOf_24 rfl (v := 7) (by decide) ?_
  refine aw_copyi K mm_Dr_53 d_Dr_copyOf_26 rfl rfl rfl (by decide) (by decide) (by decide) (by decide) (by decide) (Nat.le_of_ble_eq_true rfl) hd1 (w' := [c0, c1, c2, c3, c4, c5, c6, c7, c8, c9, c10, c11, c12, c13, c14, c15, c16, c17, oC 4 [aI u_nodes, aI u_numberings, aR 19, aR 20, aI u_size, aL u_form, aI u_symmetries, aR 21], iC 4 u_states, iC 7 u_codes, c21, oC 4 [aI v_nodes, aI v_numberings, aR 23, aR 24, aI v_size, aL v_form, aI v_symmetries, aR 25], iC 4 (va_cpy u_states v_states (0 : Int32).toNatClampNeg (0 : Int32).toNatClampNeg (4 : Int32).toNatClampNeg), iC 7 (va_cpy u_codes v_codes (0 : Int32).toNatClampNeg (0 : Int32).toNatClampNeg (7 : Int32).toNatClampNeg), c25]) rfl ?_
  refine aw_aload_n K d_Dr_copyOf_29 rfl rfl ?_
  refine aw_aload_n K d_Dr_copyOf_30 rfl rfl ?_
  refine aw_getf K fd_Dr_18 d_Dr_copyOf_31 rfl rfl rfl ?_
  refine aw_putf K fp_Dr_18 d_Dr_copyOf_34 rfl rfl (Nat.le_of_ble_eq_true rfl) (am_fit_i _) (w' := [c0, c1, c2, c3, c4, c5, c6, c7, c8, c9, c10, c11, c12, c13, c14, c15, c16, c17, oC 4 [aI u_nodes, aI u_numberings, aR 19, aR 20, aI u_size, aL u_form, aI u_symmetries, aR 21], iC 4 u_states, iC 7 u_codes, c21, oC 4 [aI v_nodes, aI v_numberings, aR 23, aR 24, aI u_size, aL v_form, aI v_symmetries, aR 25], iC 4 (va_cpy u_states v_states (0 : Int32).toNatClampNeg (0 : Int32).toNatClampNeg (4 : Int32).toNatClampNeg), iC 7 (va_cpy u_codes v_codes (0 : Int32).toNatClampNeg (0 : Int32).toNatClampNeg (7 : Int32).toNatClampNeg), c25]) rfl ?_
  exact aw_vret K hr d_Dr_copyOf_37 h
set_option maxRecDepth 20000 in
theorem x_Dr_removeCode_0 {X : am_X} {dd bc bs : Nat} (K : am_ok X b_Dr_removeCode R_Dr 3 dd) {post : Option am_V → List am_C → Prop} (hr : am_rt X none post) {l1 v_nodes v_numberings v_size v_symmetries : Int32} {v_form : Int64} {v_codes : Nat → Int32} {c0 c1 c2 c3 c4 c5 c6 c7 c8 c9 c10 c11 c12 c13 c14 c15 c16 c17 c18 c19 c20 c21 c23 c25 : am_C}
    (h : (l1 < 0 → post none [c0, c1, c2, c3, c4, c5, c6, c7, c8, c9, c10, c11, c12, c13, c14, c15, c16, c17, c18, c19, c20, c21, oC 4 [aI v_nodes, aI v_numberings, aR 23, aR 24, aI v_size, aL v_form, aI v_symmetries, aR 25], c23, iC 7 v_codes, c25]) ∧ (¬ l1 < 0 → (l1 < v_size → AW X 25 [some (aR 22), none, some (aI l1)] [] [c0, c1, c2, c3, c4, c5, c6, c7, c8, c9, c10, c11, c12, c13, c14, c15, c16, c17, c18, c19, c20, c21, oC 4 [aI v_nodes, aI v_numberings, aR 23, aR 24, aI (v_size - (1 : Int32)), aL v_form, aI v_symmetries, aR 25], c23, iC 7 v_codes, c25] bc bs) ∧ (¬ l1 < v_size → post none [c0, c1, c2, c3, c4, c5, c6, c7, c8, c9, c10, c11, c12, c13, c14, c15, c16, c17, c18, c19, c20, c21, oC 4 [aI v_nodes, aI v_numberings, aR 23, aR 24, aI v_size, aL v_form, aI v_symmetries, aR 25], c23, iC 7 v_codes, c25]))) :
    AW X 0 [some (aR 22), some (aI l1), none] [] [c0, c1, c2, c3, c4, c5, c6, c7, c8, c9, c10, c11, c12, c13, c14, c15, c16, c17, c18, c19, c20, c21, oC 4 [aI v_nodes, aI v_numberings, aR 23, aR 24, aI v_size, aL v_form, aI v_symmetries, aR 25], c23, iC 7 v_codes, c25] bc bs := by
  refine aw_iload_n K d_Dr_removeCode_0 rfl rfl ?_
  refine aw_if_lt K d_Dr_removeCode_1 (t := 12) (by decide) rfl (fun q => ?_) (fun q => ?_)
  · replace h := h.1 q
    exact aw_vret K hr d_Dr_removeCode_12 h
  · replace h := h.2 q
    refine aw_iload_n K d_Dr_removeCode_4 rfl rfl ?_
    refine aw_aload_n K d_Dr_removeCode_5 rfl rfl ?_
    refine aw_getf K fd_Dr_18 d_Dr_removeCode_6 rfl rfl rfl ?_
    refine aw_icmp_lt K d_Dr_removeCode_9 (t := 13) (by decide) rfl (fun q => ?_) (fun q => ?_)
    · replace h := h.1 q
      refine aw_aload_n K d_Dr_removeCode_13 rfl rfl ?_
      refine aw_dup K d_Dr_removeCode_14 rfl (fun _ e => nomatch e) ?_
      refine aw_getf K fd_Dr_18 d_Dr_removeCode_15 rfl rfl rfl ?_
      refine aw_iconst K d_Dr_removeCode_18 rfl (v := 1) (by decide) ?_
      refine aw_isub K d_Dr_removeCode_19 rfl ?_
      refine aw_putf K fp_Dr_18 d_Dr_removeCode_20 rfl rfl (Nat.le_of_ble_eq_true rfl) (am_fit_i _) (w' := [c0, c1, c2, c3, c4, c5, c6, c7, c8, c9, c10, c11, c12, c13, c14, c15, c16, c17, c18, c19, c20, c21, oC 4 [aI v_nodes, aI v_numberings, aR 23, aR 24, aI (v_size - (1 : Int32)), aL v_form, aI v_symmetries, aR 25], c23, iC 7 v_codes, c25]) rfl ?_
      refine aw_iload_n K d_Dr_removeCode_23 rfl rfl ?_
      refine aw_istore_n K d_Dr_removeCode_24 rfl (by decide) (lv' := [some (aR 22), some (aI l1), some (aI l1)]) rfl ?_
      refine aw_less [1] rfl ?_
      exact h
    · replace h := h.2 q
      exact aw_vret K hr d_Dr_removeCode_12 h
set_option maxRecDepth 20000 in
theorem x_Dr_removeCode_25 {X : am_X} {dd bc bs : Nat} (K : am_ok X b_Dr_removeCode R_Dr 3 dd) {post : Option am_V → List am_C → Prop} (hr : am_rt X none post) {l2 v_nodes v_numberings v_size v_symmetries : Int32} {v_form : Int64} {v_codes : Nat → Int32} {c0 c1 c2 c3 c4 c5 c6 c7 c8 c9 c10 c11 c12 c13 c14 c15 c16 c17 c18 c19 c20 c21 c23 c25 : am_C}
    (h : (v_size ≤ l2 → post none [c0, c1, c2, c3, c4, c5, c6, c7, c8, c9, c10, c11, c12, c13, c14, c15, c16, c17, c18, c19, c20, c21, oC 4 [aI v_nodes, aI v_numberings, aR 23, aR 24, aI v_size, aL v_form, aI v_symmetries, aR 25], c23, iC 7 v_codes, c25]) ∧ (¬ v_size ≤ l2 → vp_in (l2 + (1 : Int32)) 7 ∧ vp_in l2 7 ∧ AW X 25 [some (aR 22), none, some (aI (l2 + 1))] [] [c0, c1, c2, c3, c4, c5, c6, c7, c8, c9, c10, c11, c12, c13, c14, c15, c16, c17, c18, c19, c20, c21, oC 4 [aI v_nodes, aI v_numberings, aR 23, aR 24, aI v_size, aL v_form, aI v_symmetries, aR 25], c23, iC 7 (upd v_codes l2.toNatClampNeg (v_codes (l2 + (1 : Int32)).toNatClampNeg)), c25] bc bs)) :
    AW X 25 [some (aR 22), none, some (aI l2)] [] [c0, c1, c2, c3, c4, c5, c6, c7, c8, c9, c10, c11, c12, c13, c14, c15, c16, c17, c18, c19, c20, c21, oC 4 [aI v_nodes, aI v_numberings, aR 23, aR 24, aI v_size, aL v_form, aI v_symmetries, aR 25], c23, iC 7 v_codes, c25] bc bs := by
  refine aw_iload_n K d_Dr_removeCode_25 rfl rfl ?_
  refine aw_aload_n K d_Dr_removeCode_26 rfl rfl ?_
  refine aw_getf K fd_Dr_18 d_Dr_removeCode_27 rfl rfl rfl ?_
  refine aw_icmp_ge K d_Dr_removeCode_30 (t := 53) (by decide) rfl (fun q => ?_) (fun q => ?_)
  · replace h := h.1 q
    exact aw_vret K hr d_Dr_removeCode_53 h
  · replace h := h.2 q
    refine aw_aload_n K d_Dr_removeCode_33 rfl rfl ?_
    refine aw_getf K fd_Dr_15 d_Dr_removeCode_34 rfl rfl rfl ?_
    refine aw_iload_n K d_Dr_removeCode_37 rfl rfl ?_
    refine aw_aload_n K d_Dr_removeCode_38 rfl rfl ?_
    refine aw_getf K fd_Dr_15 d_Dr_removeCode_39 rfl rfl rfl ?_
    refine aw_iload_n K d_Dr_removeCode_42 rfl rfl ?_
    refine aw_iconst K d_Dr_removeCode_43 rfl (v := 1) (by decide) ?_
    refine aw_iadd K d_Dr_removeCode_44 rfl ?_
    refine aw_iald K d_Dr_removeCode_45 rfl rfl h.1 ?_
    replace h := h.2
    refine aw_iast K d_Dr_removeCode_46 rfl rfl h.1 (w' := [c0, c1, c2, c3, c4, c5, c6, c7, c8, c9, c10, c11, c12, c13, c14, c15, c16, c17, c18, c19, c20, c21, oC 4 [aI v_nodes, aI v_numberings, aR 23, aR 24, aI v_size, aL v_form, aI v_symmetries, aR 25], c23, iC 7 (upd v_codes l2.toNatClampNeg (v_codes (l2 + (1 : Int32)).toNatClampNeg)), c25]) rfl ?_
    replace h := h.2
    refine aw_iinc K d_Dr_removeCode_47 rfl rfl (v := l2 + 1) rfl (by decide) (lv' := [some (aR 22), none, some (aI (l2 + 1))]) rfl ?_
    refine aw_goto K d_Dr_removeCode_50 (n := 25) (by decide) ?_
    exact h
set_option maxRecDepth 20000 in
theorem x_Dr_addCode_0 {X : am_X} {dd bc bs : Nat} (K : am_ok X b_Dr_addCode R_Dr 4 dd) {post : Option am_V → List am_C → Prop} (hr : am_rt X none post) {l1 l2 l3 v_nodes v_numberings v_size v_symmetries : Int32} {v_form : Int64} {v_codes : Nat → Int32} {c0 c1 c2 c3 c4 c5 c6 c7 c8 c9 c10 c11 c12 c13 c14 c15 c16 c17 c18 c19 c20 c21 c23 c25 : am_C}
    (h : (7 ≤ v_size → post none [c0, c1, c2, c3, c4, c5, c6, c7, c8, c9, c10, c11, c12, c13, c14, c15, c16, c17, c18, c19, c20, c21, oC 4 [aI v_nodes, aI v_numberings, aR 23, aR 24, aI v_size, aL v_form, aI v_symmetries, aR 25], c23, iC 7 v_codes, c25]) ∧ (¬ 7 ≤ v_size → vp_in v_size 7 ∧ post none [c0, c1, c2, c3, c4, c5, c6, c7, c8, c9, c10, c11, c12, c13, c14, c15, c16, c17, c18, c19, c20, c21, oC 4 [aI v_nodes, aI v_numberings, aR 23, aR 24, aI (v_size + (1 : Int32)), aL v_form, aI v_symmetries, aR 25], c23, iC 7 (upd v_codes v_size.toNatClampNeg ((((16 : Int32) * l1) + ((4 : Int32) * l2)) + l3)), c25])) :
    AW X 0 [some (aR 22), some (aI l1), some (aI l2), some (aI l3)] [] [c0, c1, c2, c3, c4, c5, c6, c7, c8, c9, c10, c11, c12, c13, c14, c15, c16, c17, c18, c19, c20, c21, oC 4 [aI v_nodes, aI v_numberings, aR 23, aR 24, aI v_size, aL v_form, aI v_symmetries, aR 25], c23, iC 7 v_codes, c25] bc bs := by
  refine aw_aload_n K d_Dr_addCode_0 rfl rfl ?_
  refine aw_getf K fd_Dr_18 d_Dr_addCode_1 rfl rfl rfl ?_
  refine aw_bipush K d_Dr_addCode_4 rfl (v := 7) (by decide) ?_
  refine aw_icmp_ge K d_Dr_addCode_6 (t := 35) (by decide) rfl (fun q => ?_) (fun q => ?_)
  · replace h := h.1 q
    exact aw_vret K hr d_Dr_addCode_35 h
  · replace h := h.2 q
    refine aw_aload_n K d_Dr_addCode_9 rfl rfl ?_
    refine aw_getf K fd_Dr_15 d_Dr_addCode_10 rfl rfl rfl ?_
    refine aw_aload_n K d_Dr_addCode_13 rfl rfl ?_
    refine aw_dup K d_Dr_addCode_14 rfl (fun _ e => nomatch e) ?_
    refine aw_getf K fd_Dr_18 d_Dr_addCode_15 rfl rfl rfl ?_
    refine aw_dup_x1 K d_Dr_addCode_18 rfl (fun _ e => nomatch e) (fun _ e => nomatch e) ?_
    refine aw_iconst K d_Dr_addCode_19 rfl (v := 1) (by decide) ?_
    refine aw_iadd K d_Dr_addCode_20 rfl ?_
    refine aw_putf K fp_Dr_18 d_Dr_addCode_21 rfl rfl (Nat.le_of_ble_eq_true rfl) (am_fit_i _) (w' := [c0, c1, c2, c3, c4, c5, c6, c7, c8, c9, c10, c11, c12, c13, c14, c15, c16, c17, c18, c19, c20, c21, oC 4 [aI v_nodes, aI v_numberings, aR 23, aR 24, aI (v_size + (1 : Int32)), aL v_form, aI v_symmetries, aR 25], c23, iC 7 v_codes, c25]) rfl ?_
    refine aw_bipush K d_Dr_addCode_24 rfl (v := 16) (by decide) ?_
    refine aw_iload_n K d_Dr_addCode_26 rfl rfl ?_
    refine aw_imul K d_Dr_addCode_27 rfl ?_
    refine aw_iconst K d_Dr_addCode_28 rfl (v := 4) (by decide) ?_
    refine aw_iload_n K d_Dr_addCode_29 rfl rfl ?_
    refine aw_imul K d_Dr_addCode_30 rfl ?_
    refine aw_iadd K d_Dr_addCode_31 rfl ?_
    refine aw_iload_n K d_Dr_addCode_32 rfl rfl ?_
    refine aw_iadd K d_Dr_addCode_33 rfl ?_
    refine aw_iast K d_Dr_addCode_34 rfl rfl h.1 (w' := [c0, c1, c2, c3, c4, c5, c6, c7, c8, c9, c10, c11, c12, c13, c14, c15, c16, c17, c18, c19, c20, c21, oC 4 [aI v_nodes, aI v_numberings, aR 23, aR 24, aI (v_size + (1 : Int32)), aL v_form, aI v_symmetries, aR 25], c23, iC 7 (upd v_codes v_size.toNatClampNeg ((((16 : Int32) * l1) + ((4 : Int32) * l2)) + l3)), c25]) rfl ?_
    replace h := h.2
    exact aw_vret K hr d_Dr_addCode_35 h
set_option maxRecDepth 20000 in
theorem x_Dr_settle_0 {X : am_X} {dd bc bs : Nat} (K : am_ok X b_Dr_settle R_Dr 6 dd) {post : Option am_V → List am_C → Prop} (hr : am_rt X none post) {v_nodes v_numberings v_size v_symmetries : Int32} {v_form : Int64} {c0 c1 c2 c3 c4 c5 c6 c7 c8 c9 c10 c11 c12 c13 c14 c15 c16 c17 c18 c19 c20 c21 c23 c24 c25 : am_C}
    (h : AW X 14 [some (aR 22), some (aI 0), none, none, none, none] [] [c0, c1, c2, c3, c4, c5, c6, c7, c8, c9, c10, c11, c12, c13, c14, c15, c16, c17, c18, c19, c20, c21, oC 4 [aI v_nodes, aI v_numberings, aR 23, aR 24, aI v_size, aL 9223372036854775807, aI 0, aR 25], c23, c24, c25] bc bs) :
    AW X 0 [some (aR 22), none, none, none, none, none] [] [c0, c1, c2, c3, c4, c5, c6, c7, c8, c9, c10, c11, c12, c13, c14, c15, c16, c17, c18, c19, c20, c21, oC 4 [aI v_nodes, aI v_numberings, aR 23, aR 24, aI v_size, aL v_form, aI v_symmetries, aR 25], c23, c24, c25] bc bs := by
  refine aw_aload_n K d_Dr_settle_0 rfl rfl ?_
  refine aw_ldc2 K d_Dr_settle_1 rfl (v := 9223372036854775807) wd_Dr_61 ?_
  refine aw_putf K fp_Dr_22 d_Dr_settle_4 rfl rfl (Nat.le_of_ble_eq_true rfl) (am_fit_l _) (w' := [c0, c1, c2, c3, c4, c5, c6, c7, c8, c9, c10, c11, c12, c13, c14, c15, c16, c17, c18, c19, c20, c21, oC 4 [aI v_nodes, aI v_numberings, aR 23, aR 24, aI v_size, aL 9223372036854775807, aI v_symmetries, aR 25], c23, c24, c25]) rfl ?_
  refine aw_aload_n K d_Dr_settle_7 rfl rfl ?_
  refine aw_iconst K d_Dr_settle_8 rfl (v := 0) (by decide) ?_
  refine aw_putf K fp_Dr_26 d_Dr_settle_9 rfl rfl (Nat.le_of_ble_eq_true rfl) (am_fit_i _) (w' := [c0, c1, c2, c3, c4, c5, c6, c7, c8, c9, c10, c11, c12, c13, c14, c15, c16, c17, c18, c19, c20, c21, oC 4 [aI v_nodes, aI v_numberings, aR 23, aR 24, aI v_size, aL 9223372036854775807, aI 0, aR 25], c23, c24, c25]) rfl ?_
  refine aw_iconst K d_Dr_settle_12 rfl (v := 0) (by decide) ?_
  refine aw_istore_n K d_Dr_settle_13 rfl (by decide) (lv' := [some (aR 22), some (aI 0), none, none, none, none]) rfl ?_
  exact h
set_option maxRecDepth 20000 in
theorem x_Dr_settle_14 {X : am_X} {dd bc bs : Nat} (K : am_ok X b_Dr_settle R_Dr 6 dd) {post : Option am_V → List am_C → Prop} (hr : am_rt X none post) {sp_Dr_statesBy : am_S} {dd_Dr_statesBy : Nat} (c_Dr_statesBy : Con y_Dr_statesBy b_Dr_statesBy 5 (some .long) dd_Dr_statesBy 0 0 false sp_Dr_statesBy) (hdd_Dr_statesBy : dd_Dr_statesBy + 1 ≤ dd) {l1 v_nodes v_numberings v_size v_symmetries : Int32} {v_form : Int64} {c0 c1 c2 c3 c4 c5 c6 c7 c8 c9 c10 c11 c12 c13 c14 c15 c16 c17 c18 c19 c20 c21 c23 c24 c25 : am_C}
    (h : (v_numberings ≤ l1 → post none [c0, c1, c2, c3, c4, c5, c6, c7, c8, c9, c10, c11, c12, c13, c14, c15, c16, c17, c18, c19, c20, c21, oC 4 [aI v_nodes, aI v_numberings, aR 23, aR 24, aI v_size, aL v_form, aI v_symmetries, aR 25], c23, c24, c25]) ∧ (¬ v_numberings ≤ l1 → vp_in l1 24 ∧ sp_Dr_statesBy [aR 22, aI (am_num l1.toNatClampNeg)] [c0, c1, c2, c3, c4, c5, c6, c7, c8, c9, c10, c11, c12, c13, c14, c15, c16, c17, c18, c19, c20, c21, oC 4 [aI v_nodes, aI v_numberings, aR 23, aR 24, aI v_size, aL v_form, aI v_symmetries, aR 25], c23, c24, c25] (fun rv w' => AW X 31 [some (aR 22), some (aI l1), none, none, none, none] (rv.toList ++ []) w' bc bs))) :
    AW X 14 [some (aR 22), some (aI l1), none, none, none, none] [] [c0, c1, c2, c3, c4, c5, c6, c7, c8, c9, c10, c11, c12, c13, c14, c15, c16, c17, c18, c19, c20, c21, oC 4 [aI v_nodes, aI v_numberings, aR 23, aR 24, aI v_size, aL v_form, aI v_symmetries, aR 25], c23, c24, c25] bc bs := by
  refine aw_iload_n K d_Dr_settle_14 rfl rfl ?_
  refine aw_aload_n K d_Dr_settle_15 rfl rfl ?_
  refine aw_getf K fd_Dr_39 d_Dr_settle_16 rfl rfl rfl ?_
  refine aw_icmp_ge K d_Dr_settle_19 (t := 110) (by decide) rfl (fun q => ?_) (fun q => ?_)
  · replace h := h.1 q
    exact aw_vret K hr d_Dr_settle_110 h
  · replace h := h.2 q
    refine aw_aload_n K d_Dr_settle_22 rfl rfl ?_
    refine aw_tabN_nN K sf_Dr_63 d_Dr_settle_23 d_Dr_settle_26 d_Dr_settle_27 rfl rfl h.1 ?_
    replace h := h.2
    exact aw_callV K c_Dr_statesBy cb_Dr_66 ci_Dr_statesBy cs_Dr_statesBy hdd_Dr_statesBy (k := 22) rfl rfl d_Dr_settle_28 rfl (av := [aI (am_num l1.toNatClampNeg)]) rfl (Nat.le_of_ble_eq_true rfl) h (fun rv w' hF => hF)
set_option maxRecDepth 20000 in
theorem x_Dr_settle_31 {X : am_X} {dd bc bs : Nat} (K : am_ok X b_Dr_settle R_Dr 6 dd) {post : Option am_V → List am_C → Prop} (hr : am_rt X none post) {sp_Dr_codesBy : am_S} {dd_Dr_codesBy : Nat} (c_Dr_codesBy : Con y_Dr_codesBy b_Dr_codesBy 8 (some .long) dd_Dr_codesBy 0 0 false sp_Dr_codesBy) (hdd_Dr_codesBy : dd_Dr_codesBy + 1 ≤ dd) {l1 v_nodes v_numberings v_size v_symmetries : Int32} {s0 v_form : Int64} {c0 c1 c2 c3 c4 c5 c6 c7 c8 c9 c10 c11 c12 c13 c14 c15 c16 c17 c18 c19 c20 c21 c23 c24 c25 : am_C}
    (h : ((lg_cmp s0 ((v_form.toUInt64 >>> ((49 : Int32).toInt64.toUInt64 &&& Int64.toUInt64 63)).toInt64)) ≤ 0 → vp_in l1 24 ∧ sp_Dr_codesBy [aR 22, aI (am_num l1.toNatClampNeg)] [c0, c1, c2, c3, c4, c5, c6, c7, c8, c9, c10, c11, c12, c13, c14, c15, c16, c17, c18, c19, c20, c21, oC 4 [aI v_nodes, aI v_numberings, aR 23, aR 24, aI v_size, aL v_form, aI v_symmetries, aR 25], c23, c24, c25] (fun rv w' => AW X 60 [some (aR 22), some (aI l1), none, none, none, none] (rv.toList ++ [aL (s0 <<< ((49 : Int32).toInt64 &&& 63))]) w' bc bs)) ∧ (¬ (lg_cmp s0 ((v_form.toUInt64 >>> ((49 : Int32).toInt64.toUInt64 &&& Int64.toUInt64 63)).toInt64)) ≤ 0 → AW X 14 [some (aR 22), some (aI (l1 + 1)), none, none, none, none] [] [c0, c1, c2, c3, c4, c5, c6, c7, c8, c9, c10, c11, c12, c13, c14, c15, c16, c17, c18, c19, c20, c21, oC 4 [aI v_nodes, aI v_numberings, aR 23, aR 24, aI v_size, aL v_form, aI v_symmetries, aR 25], c23, c24, c25] bc bs)) :
    AW X 31 [some (aR 22), some (aI l1), none, none, none, none] [aL s0] [c0, c1, c2, c3, c4, c5, c6, c7, c8, c9, c10, c11, c12, c13, c14, c15, c16, c17, c18, c19, c20, c21, oC 4 [aI v_nodes, aI v_numberings, aR 23, aR 24, aI v_size, aL v_form, aI v_symmetries, aR 25], c23, c24, c25] bc bs := by
  refine aw_lstore_n K d_Dr_settle_31 rfl (by decide) (lv' := [some (aR 22), some (aI l1), some (aL s0), none, none, none]) rfl ?_
  refine aw_lload_n K d_Dr_settle_32 rfl rfl ?_
  refine aw_aload_n K d_Dr_settle_33 rfl rfl ?_
  refine aw_getf K fd_Dr_22 d_Dr_settle_34 rfl rfl rfl ?_
  refine aw_bipush K d_Dr_settle_37 rfl (v := 49) (by decide) ?_
  refine aw_lushr K d_Dr_settle_39 rfl ?_
  refine aw_lcmp K d_Dr_settle_40 rfl ?_
  refine aw_if_le K d_Dr_settle_41 (t := 47) (by decide) rfl (fun q => ?_) (fun q => ?_)
  · replace h := h.1 q
    refine aw_lload_n K d_Dr_settle_47 rfl rfl ?_
    refine aw_bipush K d_Dr_settle_48 rfl (v := 49) (by decide) ?_
    refine aw_lshl K d_Dr_settle_50 rfl ?_
    refine aw_aload_n K d_Dr_settle_51 rfl rfl ?_
    refine aw_tabN_nN K sf_Dr_63 d_Dr_settle_52 d_Dr_settle_55 d_Dr_settle_56 rfl rfl h.1 ?_
    replace h := h.2
    refine aw_less [2] rfl ?_
    exact aw_callV K c_Dr_codesBy cb_Dr_70 ci_Dr_codesBy cs_Dr_codesBy hdd_Dr_codesBy (k := 22) rfl rfl d_Dr_settle_57 rfl (av := [aI (am_num l1.toNatClampNeg)]) rfl (Nat.le_of_ble_eq_true rfl) h (fun rv w' hF => hF)
  · replace h := h.2 q
    refine aw_goto K d_Dr_settle_44 (n := 104) (by decide) ?_
    refine aw_iinc K d_Dr_settle_104 rfl rfl (v := l1 + 1) rfl (by decide) (lv' := [some (aR 22), some (aI (l1 + 1)), some (aL s0), none, none, none]) rfl ?_
    refine aw_goto K d_Dr_settle_107 (n := 14) (by decide) ?_
    refine aw_less [2] rfl ?_
    exact h
set_option maxRecDepth 20000 in
theorem x_Dr_settle_60 {X : am_X} {dd bc bs : Nat} (K : am_ok X b_Dr_settle R_Dr 6 dd) {post : Option am_V → List am_C → Prop} (hr : am_rt X none post) {l1 v_nodes v_numberings v_size v_symmetries : Int32} {s0 s1 v_form : Int64} {c0 c1 c2 c3 c4 c5 c6 c7 c8 c9 c10 c11 c12 c13 c14 c15 c16 c17 c18 c19 c20 c21 c23 c24 c25 : am_C}
    (h : (0 ≤ (lg_cmp (s1 ||| s0) v_form) → AW X 84 [some (aR 22), some (aI l1), none, none, some (aL (s1 ||| s0)), none] [] [c0, c1, c2, c3, c4, c5, c6, c7, c8, c9, c10, c11, c12, c13, c14, c15, c16, c17, c18, c19, c20, c21, oC 4 [aI v_nodes, aI v_numberings, aR 23, aR 24, aI v_size, aL v_form, aI v_symmetries, aR 25], c23, c24, c25] bc bs) ∧ (¬ 0 ≤ (lg_cmp (s1 ||| s0) v_form) → AW X 84 [some (aR 22), some (aI l1), none, none, some (aL (s1 ||| s0)), none] [] [c0, c1, c2, c3, c4, c5, c6, c7, c8, c9, c10, c11, c12, c13, c14, c15, c16, c17, c18, c19, c20, c21, oC 4 [aI v_nodes, aI v_numberings, aR 23, aR 24, aI v_size, aL (s1 ||| s0), aI 0, aR 25], c23, c24, c25] bc bs)) :
    AW X 60 [some (aR 22), some (aI l1), none, none, none, none] [aL s0, aL s1] [c0, c1, c2, c3, c4, c5, c6, c7, c8, c9, c10, c11, c12, c13, c14, c15, c16, c17, c18, c19, c20, c21, oC 4 [aI v_nodes, aI v_numberings, aR 23, aR 24, aI v_size, aL v_form, aI v_symmetries, aR 25], c23, c24, c25] bc bs := by
  refine aw_lor K d_Dr_settle_60 rfl ?_
  refine aw_lstore K d_Dr_settle_61 rfl (by decide) (lv' := [some (aR 22), some (aI l1), none, none, some (aL (s1 ||| s0)), none]) rfl ?_
  refine aw_lload K d_Dr_settle_63 rfl rfl ?_
  refine aw_aload_n K d_Dr_settle_65 rfl rfl ?_
  refine aw_getf K fd_Dr_22 d_Dr_settle_66 rfl rfl rfl ?_
  refine aw_lcmp K d_Dr_settle_69 rfl ?_
  refine aw_if_ge K d_Dr_settle_70 (t := 84) (by decide) rfl (fun q => ?_) (fun q => ?_)
  · replace h := h.1 q
    exact h
  · replace h := h.2 q
    refine aw_aload_n K d_Dr_settle_73 rfl rfl ?_
    refine aw_lload K d_Dr_settle_74 rfl rfl ?_
    refine aw_putf K fp_Dr_22 d_Dr_settle_76 rfl rfl (Nat.le_of_ble_eq_true rfl) (am_fit_l _) (w' := [c0, c1, c2, c3, c4, c5, c6, c7, c8, c9, c10, c11, c12, c13, c14, c15, c16, c17, c18, c19, c20, c21, oC 4 [aI v_nodes, aI v_numberings, aR 23, aR 24, aI v_size, aL (s1 ||| s0), aI v_symmetries, aR 25], c23, c24, c25]) rfl ?_
    refine aw_aload_n K d_Dr_settle_79 rfl rfl ?_
    refine aw_iconst K d_Dr_settle_80 rfl (v := 0) (by decide) ?_
    refine aw_putf K fp_Dr_26 d_Dr_settle_81 rfl rfl (Nat.le_of_ble_eq_true rfl) (am_fit_i _) (w' := [c0, c1, c2, c3, c4, c5, c6, c7, c8, c9, c10, c11, c12, c13, c14, c15, c16, c17, c18, c19, c20, c21, oC 4 [aI v_nodes, aI v_numberings, aR 23, aR 24, aI v_size, aL (s1 ||| s0), aI 0, aR 25], c23, c24, c25]) rfl ?_
    exact h
set_option maxRecDepth 20000 in
theorem x_Dr_settle_84 {X : am_X} {dd bc bs : Nat} (K : am_ok X b_Dr_settle R_Dr 6 dd) {post : Option am_V → List am_C → Prop} (hr : am_rt X none post) {l1 v_nodes v_numberings v_size v_symmetries : Int32} {l4 v_form : Int64} {c0 c1 c2 c3 c4 c5 c6 c7 c8 c9 c10 c11 c12 c13 c14 c15 c16 c17 c18 c19 c20 c21 c23 c24 c25 : am_C}
    (h : (¬ (lg_cmp l4 v_form) = 0 → AW X 14 [some (aR 22), some (aI (l1 + 1)), none, none, none, none] [] [c0, c1, c2, c3, c4, c5, c6, c7, c8, c9, c10, c11, c12, c13, c14, c15, c16, c17, c18, c19, c20, c21, oC 4 [aI v_nodes, aI v_numberings, aR 23, aR 24, aI v_size, aL v_form, aI v_symmetries, aR 25], c23, c24, c25] bc bs) ∧ ((lg_cmp l4 v_form) = 0 → AW X 14 [some (aR 22), some (aI (l1 + 1)), none, none, none, none] [] [c0, c1, c2, c3, c4, c5, c6, c7, c8, c9, c10, c11, c12, c13, c14, c15, c16, c17, c18, c19, c20, c21, oC 4 [aI v_nodes, aI v_numberings, aR 23, aR 24, aI v_size, aL v_form, aI (v_symmetries + (1 : Int32)), aR 25], c23, c24, c25] bc bs)) :
    AW X 84 [some (aR 22), some (aI l1), none, none, some (aL l4), none] [] [c0, c1, c2, c3, c4, c5, c6, c7, c8, c9, c10, c11, c12, c13, c14, c15, c16, c17, c18, c19, c20, c21, oC 4 [aI v_nodes, aI v_numberings, aR 23, aR 24, aI v_size, aL v_form, aI v_symmetries, aR 25], c23, c24, c25] bc bs := by
  refine aw_lload K d_Dr_settle_84 rfl rfl ?_
  refine aw_aload_n K d_Dr_settle_86 rfl rfl ?_
  refine aw_getf K fd_Dr_22 d_Dr_settle_87 rfl rfl rfl ?_
  refine aw_lcmp K d_Dr_settle_90 rfl ?_
  refine aw_if_ne K d_Dr_settle_91 (t := 104) (by decide) rfl (fun q => ?_) (fun q => ?_)
  · replace h := h.1 q
    refine aw_iinc K d_Dr_settle_104 rfl rfl (v := l1 + 1) rfl (by decide) (lv' := [some (aR 22), some (aI (l1 + 1)), none, none, some (aL l4), none]) rfl ?_
    refine aw_goto K d_Dr_settle_107 (n := 14) (by decide) ?_
    refine aw_less [4] rfl ?_
    exact h
  · replace h := h.2 q
    refine aw_aload_n K d_Dr_settle_94 rfl rfl ?_
    refine aw_dup K d_Dr_settle_95 rfl (fun _ e => nomatch e) ?_
    refine aw_getf K fd_Dr_26 d_Dr_settle_96 rfl rfl rfl ?_
    refine aw_iconst K d_Dr_settle_99 rfl (v := 1) (by decide) ?_
    refine aw_iadd K d_Dr_settle_100 rfl ?_
    refine aw_putf K fp_Dr_26 d_Dr_settle_101 rfl rfl (Nat.le_of_ble_eq_true rfl) (am_fit_i _) (w' := [c0, c1, c2, c3, c4, c5, c6, c7, c8, c9, c10, c11, c12, c13, c14, c15, c16, c17, c18, c19, c20, c21, oC 4 [aI v_nodes, aI v_numberings, aR 23, aR 24, aI v_size, aL v_form, aI (v_symmetries + (1 : Int32)), aR 25], c23, c24, c25]) rfl ?_
    refine aw_iinc K d_Dr_settle_104 rfl rfl (v := l1 + 1) rfl (by decide) (lv' := [some (aR 22), some (aI (l1 + 1)), none, none, some (aL l4), none]) rfl ?_
    refine aw_goto K d_Dr_settle_107 (n := 14) (by decide) ?_
    refine aw_less [4] rfl ?_
    exact h
set_option maxRecDepth 20000 in
theorem x_Dr_statesBy_0 {X : am_X} {dd bc bs : Nat} (K : am_ok X b_Dr_statesBy R_Dr 5 dd) {post : Option am_V → List am_C → Prop} (hr : am_rt X (some .long) post) {l1 v_nodes v_numberings v_size v_symmetries : Int32} {v_form : Int64} {v_states : Nat → Int32} {c0 c1 c2 c3 c4 c5 c6 c7 c8 c9 c10 c11 c12 c13 c14 c15 c16 c17 c18 c19 c20 c21 c24 c25 : am_C}
    (h : AW X 4 [some (aR 22), some (aI l1), some (aI 0), some (aI 0), none] [] [c0, c1, c2, c3, c4, c5, c6, c7, c8, c9, c10, c11, c12, c13, c14, c15, c16, c17, c18, c19, c20, c21, oC 4 [aI v_nodes, aI v_numberings, aR 23, aR 24, aI v_size, aL v_form, aI v_symmetries, aR 25], iC 4 v_states, c24, c25] bc bs) :
    AW X 0 [some (aR 22), some (aI l1), none, none, none] [] [c0, c1, c2, c3, c4, c5, c6, c7, c8, c9, c10, c11, c12, c13, c14, c15, c16, c17, c18, c19, c20, c21, oC 4 [aI v_nodes, aI v_numberings, aR 23, aR 24, aI v_size, aL v_form, aI v_symmetries, aR 25], iC 4 v_states, c24, c25] bc bs := by
  refine aw_iconst K d_Dr_statesBy_0 rfl (v := 0) (by decide) ?_
  refine aw_istore_n K d_Dr_statesBy_1 rfl (by decide) (lv' := [some (aR 22), some (aI l1), some (aI 0), none, none]) rfl ?_
  refine aw_iconst K d_Dr_statesBy_2 rfl (v := 0) (by decide) ?_
  refine aw_istore_n K d_Dr_statesBy_3 rfl (by decide) (lv' := [some (aR 22), some (aI l1), some (aI 0), some (aI 0), none]) rfl ?_
  exact h
set_option maxRecDepth 20000 in
theorem x_Dr_statesBy_4 {X : am_X} {dd bc bs : Nat} (K : am_ok X b_Dr_statesBy R_Dr 5 dd) {post : Option am_V → List am_C → Prop} (hr : am_rt X (some .long) post) {l1 l2 l3 v_nodes v_numberings v_size v_symmetries : Int32} {v_form : Int64} {v_states : Nat → Int32} {c0 c1 c2 c3 c4 c5 c6 c7 c8 c9 c10 c11 c12 c13 c14 c15 c16 c17 c18 c19 c20 c21 c24 c25 : am_C}
    (h : (v_nodes ≤ l3 → post (some (aL l2.toInt64)) [c0, c1, c2, c3, c4, c5, c6, c7, c8, c9, c10, c11, c12, c13, c14, c15, c16, c17, c18, c19, c20, c21, oC 4 [aI v_nodes, aI v_numberings, aR 23, aR 24, aI v_size, aL v_form, aI v_symmetries, aR 25], iC 4 v_states, c24, c25]) ∧ (¬ v_nodes ≤ l3 → vp_in l3 4 ∧ AW X 4 [some (aR 22), some (aI l1), some (aI (l2 ||| ((v_states l3.toNatClampNeg) <<< (((3 : Int32) * ((3 : Int32) - ((l1 >>> (((4 : Int32) * l3) &&& 31)) &&& (3 : Int32)))) &&& 31)))), some (aI (l3 + 1)), none] [] [c0, c1, c2, c3, c4, c5, c6, c7, c8, c9, c10, c11, c12, c13, c14, c15, c16, c17, c18, c19, c20, c21, oC 4 [aI v_nodes, aI v_numberings, aR 23, aR 24, aI v_size, aL v_form, aI v_symmetries, aR 25], iC 4 v_states, c24, c25] bc bs)) :
    AW X 4 [some (aR 22), some (aI l1), some (aI l2), some (aI l3), none] [] [c0, c1, c2, c3, c4, c5, c6, c7, c8, c9, c10, c11, c12, c13, c14, c15, c16, c17, c18, c19, c20, c21, oC 4 [aI v_nodes, aI v_numberings, aR 23, aR 24, aI v_size, aL v_form, aI v_symmetries, aR 25], iC 4 v_states, c24, c25] bc bs := by
  refine aw_iload_n K d_Dr_statesBy_4 rfl rfl ?_
  refine aw_aload_n K d_Dr_statesBy_5 rfl rfl ?_
  refine aw_getf K fd_Dr_32 d_Dr_statesBy_6 rfl rfl rfl ?_
  refine aw_icmp_ge K d_Dr_statesBy_9 (t := 43) (by decide) rfl (fun q => ?_) (fun q => ?_)
  · replace h := h.1 q
    refine aw_iload_n K d_Dr_statesBy_43 rfl rfl ?_
    refine aw_i2l K d_Dr_statesBy_44 rfl ?_
    exact aw_lret K hr d_Dr_statesBy_45 h
  · replace h := h.2 q
    refine aw_iload_n K d_Dr_statesBy_12 rfl rfl ?_
    refine aw_iconst K d_Dr_statesBy_13 rfl (v := 4) (by decide) ?_
    refine aw_iload_n K d_Dr_statesBy_14 rfl rfl ?_
    refine aw_imul K d_Dr_statesBy_15 rfl ?_
    refine aw_ishr K d_Dr_statesBy_16 rfl ?_
    refine aw_iconst K d_Dr_statesBy_17 rfl (v := 3) (by decide) ?_
    refine aw_iand K d_Dr_statesBy_18 rfl ?_
    refine aw_istore K d_Dr_statesBy_19 rfl (by decide) (lv' := [some (aR 22), some (aI l1), some (aI l2), some (aI l3), some (aI ((l1 >>> (((4 : Int32) * l3) &&& 31)) &&& (3 : Int32)))]) rfl ?_
    refine aw_iload_n K d_Dr_statesBy_21 rfl rfl ?_
    refine aw_aload_n K d_Dr_statesBy_22 rfl rfl ?_
    refine aw_getf K fd_Dr_9 d_Dr_statesBy_23 rfl rfl rfl ?_
    refine aw_iload_n K d_Dr_statesBy_26 rfl rfl ?_
    refine aw_iald K d_Dr_statesBy_27 rfl rfl h.1 ?_
    replace h := h.2
    refine aw_iconst K d_Dr_statesBy_28 rfl (v := 3) (by decide) ?_
    refine aw_iconst K d_Dr_statesBy_29 rfl (v := 3) (by decide) ?_
    refine aw_iload K d_Dr_statesBy_30 rfl rfl ?_
    refine aw_isub K d_Dr_statesBy_32 rfl ?_
    refine aw_imul K d_Dr_statesBy_33 rfl ?_
    refine aw_ishl K d_Dr_statesBy_34 rfl ?_
    refine aw_ior K d_Dr_statesBy_35 rfl ?_
    refine aw_istore_n K d_Dr_statesBy_36 rfl (by decide) (lv' := [some (aR 22), some (aI l1), some (aI (l2 ||| ((v_states l3.toNatClampNeg) <<< (((3 : Int32) * ((3 : Int32) - ((l1 >>> (((4 : Int32) * l3) &&& 31)) &&& (3 : Int32)))) &&& 31)))), some (aI l3), some (aI ((l1 >>> (((4 : Int32) * l3) &&& 31)) &&& (3 : Int32)))]) rfl ?_
    refine aw_iinc K d_Dr_statesBy_37 rfl rfl (v := l3 + 1) rfl (by decide) (lv' := [some (aR 22), some (aI l1), some (aI (l2 ||| ((v_states l3.toNatClampNeg) <<< (((3 : Int32) * ((3 : Int32) - ((l1 >>> (((4 : Int32) * l3) &&& 31)) &&& (3 : Int32)))) &&& 31)))), some (aI (l3 + 1)), some (aI ((l1 >>> (((4 : Int32) * l3) &&& 31)) &&& (3 : Int32)))]) rfl ?_
    refine aw_goto K d_Dr_statesBy_40 (n := 4) (by decide) ?_
    refine aw_less [4] rfl ?_
    exact h
set_option maxRecDepth 20000 in
theorem x_Dr_codesBy_0 {X : am_X} {dd bc bs : Nat} (K : am_ok X b_Dr_codesBy R_Dr 8 dd) {post : Option am_V → List am_C → Prop} (hr : am_rt X (some .long) post) {l1 v_nodes v_numberings v_size v_symmetries : Int32} {v_form : Int64} {v_codes v_sorted : Nat → Int32} {c0 c1 c2 c3 c4 c5 c6 c7 c8 c9 c10 c11 c12 c13 c14 c15 c16 c17 c18 c19 c20 c21 c23 : am_C}
    (h : AW X 2 [some (aR 22), some (aI l1), some (aI 0), none, none, none, none, none] [] [c0, c1, c2, c3, c4, c5, c6, c7, c8, c9, c10, c11, c12, c13, c14, c15, c16, c17, c18, c19, c20, c21, oC 4 [aI v_nodes, aI v_numberings, aR 23, aR 24, aI v_size, aL v_form, aI v_symmetries, aR 25], c23, iC 7 v_codes, iC 7 v_sorted] bc bs) :
    AW X 0 [some (aR 22), some (aI l1), none, none, none, none, none, none] [] [c0, c1, c2, c3, c4, c5, c6, c7, c8, c9, c10, c11, c12, c13, c14, c15, c16, c17, c18, c19, c20, c21, oC 4 [aI v_nodes, aI v_numberings, aR 23, aR 24, aI v_size, aL v_form, aI v_symmetries, aR 25], c23, iC 7 v_codes, iC 7 v_sorted] bc bs := by
  refine aw_iconst K d_Dr_codesBy_0 rfl (v := 0) (by decide) ?_
  refine aw_istore_n K d_Dr_codesBy_1 rfl (by decide) (lv' := [some (aR 22), some (aI l1), some (aI 0), none, none, none, none, none]) rfl ?_
  exact h
set_option maxRecDepth 20000 in
theorem x_Dr_codesBy_2 {X : am_X} {dd bc bs : Nat} (K : am_ok X b_Dr_codesBy R_Dr 8 dd) {post : Option am_V → List am_C → Prop} (hr : am_rt X (some .long) post) {l1 l2 v_nodes v_numberings v_size v_symmetries : Int32} {v_form : Int64} {v_codes v_sorted : Nat → Int32} {c0 c1 c2 c3 c4 c5 c6 c7 c8 c9 c10 c11 c12 c13 c14 c15 c16 c17 c18 c19 c20 c21 c23 : am_C}
    (h : (v_size ≤ l2 → AW X 119 [some (aR 22), none, some (aL 0), none, some (aI 0), none, none, none] [] [c0, c1, c2, c3, c4, c5, c6, c7, c8, c9, c10, c11, c12, c13, c14, c15, c16, c17, c18, c19, c20, c21, oC 4 [aI v_nodes, aI v_numberings, aR 23, aR 24, aI v_size, aL v_form, aI v_symmetries, aR 25], c23, iC 7 v_codes, iC 7 v_sorted] bc bs) ∧ (¬ v_size ≤ l2 → vp_in l2 7 ∧ AW X 58 [some (aR 22), some (aI l1), some (aI l2), none, none, none, some (aI ((((v_codes l2.toNatClampNeg) &&& (-16 : Int32)) + ((4 : Int32) * ((l1 >>> (((4 : Int32) * (((v_codes l2.toNatClampNeg) >>> ((2 : Int32) &&& 31)) &&& (3 : Int32))) &&& 31)) &&& (3 : Int32)))) + ((l1 >>> (((4 : Int32) * ((v_codes l2.toNatClampNeg) &&& (3 : Int32))) &&& 31)) &&& (3 : Int32)))), some (aI l2)] [] [c0, c1, c2, c3, c4, c5, c6, c7, c8, c9, c10, c11, c12, c13, c14, c15, c16, c17, c18, c19, c20, c21, oC 4 [aI v_nodes, aI v_numberings, aR 23, aR 24, aI v_size, aL v_form, aI v_symmetries, aR 25], c23, iC 7 v_codes, iC 7 v_sorted] bc bs)) :
    AW X 2 [some (aR 22), some (aI l1), some (aI l2), none, none, none, none, none] [] [c0, c1, c2, c3, c4, c5, c6, c7, c8, c9, c10, c11, c12, c13, c14, c15, c16, c17, c18, c19, c20, c21, oC 4 [aI v_nodes, aI v_numberings, aR 23, aR 24, aI v_size, aL v_form, aI v_symmetries, aR 25], c23, iC 7 v_codes, iC 7 v_sorted] bc bs := by
  refine aw_iload_n K d_Dr_codesBy_2 rfl rfl ?_
  refine aw_aload_n K d_Dr_codesBy_3 rfl rfl ?_
  refine aw_getf K fd_Dr_18 d_Dr_codesBy_4 rfl rfl rfl ?_
  refine aw_icmp_ge K d_Dr_codesBy_7 (t := 114) (by decide) rfl (fun q => ?_) (fun q => ?_)
  · replace h := h.1 q
    refine aw_lconst K d_Dr_codesBy_114 rfl (v := 0) (by decide) ?_
    refine aw_lstore_n K d_Dr_codesBy_115 rfl (by decide) (lv' := [some (aR 22), some (aI l1), some (aL 0), none, none, none, none, none]) rfl ?_
    refine aw_iconst K d_Dr_codesBy_116 rfl (v := 0) (by decide) ?_
    refine aw_istore K d_Dr_codesBy_117 rfl (by decide) (lv' := [some (aR 22), some (aI l1), some (aL 0), none, some (aI 0), none, none, none]) rfl ?_
    refine aw_less [1] rfl ?_
    exact h
  · replace h := h.2 q
    refine aw_aload_n K d_Dr_codesBy_10 rfl rfl ?_
    refine aw_getf K fd_Dr_15 d_Dr_codesBy_11 rfl rfl rfl ?_
    refine aw_iload_n K d_Dr_codesBy_14 rfl rfl ?_
    refine aw_iald K d_Dr_codesBy_15 rfl rfl h.1 ?_
    replace h := h.2
    refine aw_istore_n K d_Dr_codesBy_16 rfl (by decide) (lv' := [some (aR 22), some (aI l1), some (aI l2), some (aI (v_codes l2.toNatClampNeg)), none, none, none, none]) rfl ?_
    refine aw_iload_n K d_Dr_codesBy_17 rfl rfl ?_
    refine aw_iconst K d_Dr_codesBy_18 rfl (v := 4) (by decide) ?_
    refine aw_iload_n K d_Dr_codesBy_19 rfl rfl ?_
    refine aw_iconst K d_Dr_codesBy_20 rfl (v := 2) (by decide) ?_
    refine aw_ishr K d_Dr_codesBy_21 rfl ?_
    refine aw_iconst K d_Dr_codesBy_22 rfl (v := 3) (by decide) ?_
    refine aw_iand K d_Dr_codesBy_23 rfl ?_
    refine aw_imul K d_Dr_codesBy_24 rfl ?_
    refine aw_ishr K d_Dr_codesBy_25 rfl ?_
    refine aw_iconst K d_Dr_codesBy_26 rfl (v := 3) (by decide) ?_
    refine aw_iand K d_Dr_codesBy_27 rfl ?_
    refine aw_istore K d_Dr_codesBy_28 rfl (by decide) (lv' := [some (aR 22), some (aI l1), some (aI l2), some (aI (v_codes l2.toNatClampNeg)), some (aI ((l1 >>> (((4 : Int32) * (((v_codes l2.toNatClampNeg) >>> ((2 : Int32) &&& 31)) &&& (3 : Int32))) &&& 31)) &&& (3 : Int32))), none, none, none]) rfl ?_
    refine aw_iload_n K d_Dr_codesBy_30 rfl rfl ?_
    refine aw_iconst K d_Dr_codesBy_31 rfl (v := 4) (by decide) ?_
    refine aw_iload_n K d_Dr_codesBy_32 rfl rfl ?_
    refine aw_iconst K d_Dr_codesBy_33 rfl (v := 3) (by decide) ?_
    refine aw_iand K d_Dr_codesBy_34 rfl ?_
    refine aw_imul K d_Dr_codesBy_35 rfl ?_
    refine aw_ishr K d_Dr_codesBy_36 rfl ?_
    refine aw_iconst K d_Dr_codesBy_37 rfl (v := 3) (by decide) ?_
    refine aw_iand K d_Dr_codesBy_38 rfl ?_
    refine aw_istore K d_Dr_codesBy_39 rfl (by decide) (lv' := [some (aR 22), some (aI l1), some (aI l2), some (aI (v_codes l2.toNatClampNeg)), some (aI ((l1 >>> (((4 : Int32) * (((v_codes l2.toNatClampNeg) >>> ((2 : Int32) &&& 31)) &&& (3 : Int32))) &&& 31)) &&& (3 : Int32))), some (aI ((l1 >>> (((4 : Int32) * ((v_codes l2.toNatClampNeg) &&& (3 : Int32))) &&& 31)) &&& (3 : Int32))), none, none]) rfl ?_
    refine aw_iload_n K d_Dr_codesBy_41 rfl rfl ?_
    refine aw_bipush K d_Dr_codesBy_42 rfl (v := (-16)) (by decide) ?_
    refine aw_iand K d_Dr_codesBy_44 rfl ?_
    refine aw_iconst K d_Dr_codesBy_45 rfl (v := 4) (by decide) ?_
    refine aw_iload K d_Dr_codesBy_46 rfl rfl ?_
    refine aw_imul K d_Dr_codesBy_48 rfl ?_
    refine aw_iadd K d_Dr_codesBy_49 rfl ?_
    refine aw_iload K d_Dr_codesBy_50 rfl rfl ?_
    refine aw_iadd K d_Dr_codesBy_52 rfl ?_
    refine aw_istore K d_Dr_codesBy_53 rfl (by decide) (lv' := [some (aR 22), some (aI l1), some (aI l2), some (aI (v_codes l2.toNatClampNeg)), some (aI ((l1 >>> (((4 : Int32) * (((v_codes l2.toNatClampNeg) >>> ((2 : Int32) &&& 31)) &&& (3 : Int32))) &&& 31)) &&& (3 : Int32))), some (aI ((l1 >>> (((4 : Int32) * ((v_codes l2.toNatClampNeg) &&& (3 : Int32))) &&& 31)) &&& (3 : Int32))), some (aI ((((v_codes l2.toNatClampNeg) &&& (-16 : Int32)) + ((4 : Int32) * ((l1 >>> (((4 : Int32) * (((v_codes l2.toNatClampNeg) >>> ((2 : Int32) &&& 31)) &&& (3 : Int32))) &&& 31)) &&& (3 : Int32)))) + ((l1 >>> (((4 : Int32) * ((v_codes l2.toNatClampNeg) &&& (3 : Int32))) &&& 31)) &&& (3 : Int32)))), none]) rfl ?_
    refine aw_iload_n K d_Dr_codesBy_55 rfl rfl ?_
    refine aw_istore K d_Dr_codesBy_56 rfl (by decide) (lv' := [some (aR 22), some (aI l1), some (aI l2), some (aI (v_codes l2.toNatClampNeg)), some (aI ((l1 >>> (((4 : Int32) * (((v_codes l2.toNatClampNeg) >>> ((2 : Int32) &&& 31)) &&& (3 : Int32))) &&& 31)) &&& (3 : Int32))), some (aI ((l1 >>> (((4 : Int32) * ((v_codes l2.toNatClampNeg) &&& (3 : Int32))) &&& 31)) &&& (3 : Int32))), some (aI ((((v_codes l2.toNatClampNeg) &&& (-16 : Int32)) + ((4 : Int32) * ((l1 >>> (((4 : Int32) * (((v_codes l2.toNatClampNeg) >>> ((2 : Int32) &&& 31)) &&& (3 : Int32))) &&& 31)) &&& (3 : Int32)))) + ((l1 >>> (((4 : Int32) * ((v_codes l2.toNatClampNeg) &&& (3 : Int32))) &&& 31)) &&& (3 : Int32)))), some (aI l2)]) rfl ?_
    refine aw_less [3, 4, 5] rfl ?_
    exact h
set_option maxRecDepth 20000 in
theorem x_Dr_codesBy_58 {X : am_X} {dd bc bs : Nat} (K : am_ok X b_Dr_codesBy R_Dr 8 dd) {post : Option am_V → List am_C → Prop} (hr : am_rt X (some .long) post) {l1 l2 l6 l7 v_nodes v_numberings v_size v_symmetries : Int32} {v_form : Int64} {v_codes v_sorted : Nat → Int32} {c0 c1 c2 c3 c4 c5 c6 c7 c8 c9 c10 c11 c12 c13 c14 c15 c16 c17 c18 c19 c20 c21 c23 : am_C}
    (h : (l7 ≤ 0 → vp_in l7 7 ∧ AW X 2 [some (aR 22), some (aI l1), some (aI (l2 + 1)), none, none, none, none, none] [] [c0, c1, c2, c3, c4, c5, c6, c7, c8, c9, c10, c11, c12, c13, c14, c15, c16, c17, c18, c19, c20, c21, oC 4 [aI v_nodes, aI v_numberings, aR 23, aR 24, aI v_size, aL v_form, aI v_symmetries, aR 25], c23, iC 7 v_codes, iC 7 (upd v_sorted l7.toNatClampNeg l6)] bc bs) ∧ (¬ l7 ≤ 0 → vp_in (l7 - (1 : Int32)) 7 ∧ ((v_sorted (l7 - (1 : Int32)).toNatClampNeg) ≤ l6 → vp_in l7 7 ∧ AW X 2 [some (aR 22), some (aI l1), some (aI (l2 + 1)), none, none, none, none, none] [] [c0, c1, c2, c3, c4, c5, c6, c7, c8, c9, c10, c11, c12, c13, c14, c15, c16, c17, c18, c19, c20, c21, oC 4 [aI v_nodes, aI v_numberings, aR 23, aR 24, aI v_size, aL v_form, aI v_symmetries, aR 25], c23, iC 7 v_codes, iC 7 (upd v_sorted l7.toNatClampNeg l6)] bc bs) ∧ (¬ (v_sorted (l7 - (1 : Int32)).toNatClampNeg) ≤ l6 → vp_in (l7 - (1 : Int32)) 7 ∧ vp_in l7 7 ∧ AW X 58 [some (aR 22), some (aI l1), some (aI l2), none, none, none, some (aI l6), some (aI (l7 + (-1)))] [] [c0, c1, c2, c3, c4, c5, c6, c7, c8, c9, c10, c11, c12, c13, c14, c15, c16, c17, c18, c19, c20, c21, oC 4 [aI v_nodes, aI v_numberings, aR 23, aR 24, aI v_size, aL v_form, aI v_symmetries, aR 25], c23, iC 7 v_codes, iC 7 (upd v_sorted l7.toNatClampNeg (v_sorted (l7 - (1 : Int32)).toNatClampNeg))] bc bs))) :
    AW X 58 [some (aR 22), some (aI l1), some (aI l2), none, none, none, some (aI l6), some (aI l7)] [] [c0, c1, c2, c3, c4, c5, c6, c7, c8, c9, c10, c11, c12, c13, c14, c15, c16, c17, c18, c19, c20, c21, oC 4 [aI v_nodes, aI v_numberings, aR 23, aR 24, aI v_size, aL v_form, aI v_symmetries, aR 25], c23, iC 7 v_codes, iC 7 v_sorted] bc bs := by
  refine aw_iload K d_Dr_codesBy_58 rfl rfl ?_
  refine aw_if_le K d_Dr_codesBy_60 (t := 99) (by decide) rfl (fun q => ?_) (fun q => ?_)
  · replace h := h.1 q
    refine aw_aload_n K d_Dr_codesBy_99 rfl rfl ?_
    refine aw_getf K fd_Dr_29 d_Dr_codesBy_100 rfl rfl rfl ?_
    refine aw_iload K d_Dr_codesBy_103 rfl rfl ?_
    refine aw_iload K d_Dr_codesBy_105 rfl rfl ?_
    refine aw_iast K d_Dr_codesBy_107 rfl rfl h.1 (w' := [c0, c1, c2, c3, c4, c5, c6, c7, c8, c9, c10, c11, c12, c13, c14, c15, c16, c17, c18, c19, c20, c21, oC 4 [aI v_nodes, aI v_numberings, aR 23, aR 24, aI v_size, aL v_form, aI v_symmetries, aR 25], c23, iC 7 v_codes, iC 7 (upd v_sorted l7.toNatClampNeg l6)]) rfl ?_
    replace h := h.2
    refine aw_iinc K d_Dr_codesBy_108 rfl rfl (v := l2 + 1) rfl (by decide) (lv' := [some (aR 22), some (aI l1), some (aI (l2 + 1)), none, none, none, some (aI l6), some (aI l7)]) rfl ?_
    refine aw_goto K d_Dr_codesBy_111 (n := 2) (by decide) ?_
    refine aw_less [6, 7] rfl ?_
    exact h
  · replace h := h.2 q
    refine aw_aload_n K d_Dr_codesBy_63 rfl rfl ?_
    refine aw_getf K fd_Dr_29 d_Dr_codesBy_64 rfl rfl rfl ?_
    refine aw_iload K d_Dr_codesBy_67 rfl rfl ?_
    refine aw_iconst K d_Dr_codesBy_69 rfl (v := 1) (by decide) ?_
    refine aw_isub K d_Dr_codesBy_70 rfl ?_
    refine aw_iald K d_Dr_codesBy_71 rfl rfl h.1 ?_
    replace h := h.2
    refine aw_iload K d_Dr_codesBy_72 rfl rfl ?_
    refine aw_icmp_le K d_Dr_codesBy_74 (t := 99) (by decide) rfl (fun q => ?_) (fun q => ?_)
    · replace h := h.1 q
      refine aw_aload_n K d_Dr_codesBy_99 rfl rfl ?_
      refine aw_getf K fd_Dr_29 d_Dr_codesBy_100 rfl rfl rfl ?_
      refine aw_iload K d_Dr_codesBy_103 rfl rfl ?_
      refine aw_iload K d_Dr_codesBy_105 rfl rfl ?_
      refine aw_iast K d_Dr_codesBy_107 rfl rfl h.1 (w' := [c0, c1, c2, c3, c4, c5, c6, c7, c8, c9, c10, c11, c12, c13, c14, c15, c16, c17, c18, c19, c20, c21, oC 4 [aI v_nodes, aI v_numberings, aR 23, aR 24, aI v_size, aL v_form, aI v_symmetries, aR 25], c23, iC 7 v_codes, iC 7 (upd v_sorted l7.toNatClampNeg l6)]) rfl ?_
      replace h := h.2
      refine aw_iinc K d_Dr_codesBy_108 rfl rfl (v := l2 + 1) rfl (by decide) (lv' := [some (aR 22), some (aI l1), some (aI (l2 + 1)), none, none, none, some (aI l6), some (aI l7)]) rfl ?_
      refine aw_goto K d_Dr_codesBy_111 (n := 2) (by decide) ?_
      refine aw_less [6, 7] rfl ?_
      exact h
    · replace h := h.2 q
      refine aw_aload_n K d_Dr_codesBy_77 rfl rfl ?_
      refine aw_getf K fd_Dr_29 d_Dr_codesBy_78 rfl rfl rfl ?_
      refine aw_iload K d_Dr_codesBy_81 rfl rfl ?_
      refine aw_aload_n K d_Dr_codesBy_83 rfl rfl ?_
      refine aw_getf K fd_Dr_29 d_Dr_codesBy_84 rfl rfl rfl ?_
      refine aw_iload K d_Dr_codesBy_87 rfl rfl ?_
      refine aw_iconst K d_Dr_codesBy_89 rfl (v := 1) (by decide) ?_
      refine aw_isub K d_Dr_codesBy_90 rfl ?_
      refine aw_iald K d_Dr_codesBy_91 rfl rfl h.1 ?_
      replace h := h.2
      refine aw_iast K d_Dr_codesBy_92 rfl rfl h.1 (w' := [c0, c1, c2, c3, c4, c5, c6, c7, c8, c9, c10, c11, c12, c13, c14, c15, c16, c17, c18, c19, c20, c21, oC 4 [aI v_nodes, aI v_numberings, aR 23, aR 24, aI v_size, aL v_form, aI v_symmetries, aR 25], c23, iC 7 v_codes, iC 7 (upd v_sorted l7.toNatClampNeg (v_sorted (l7 - (1 : Int32)).toNatClampNeg))]) rfl ?_
      replace h := h.2
      refine aw_iinc K d_Dr_codesBy_93 rfl rfl (v := l7 + (-1)) rfl (by decide) (lv' := [some (aR 22), some (aI l1), some (aI l2), none, none, none, some (aI l6), some (aI (l7 + (-1)))]) rfl ?_
      refine aw_goto K d_Dr_codesBy_96 (n := 58) (by decide) ?_
      exact h
set_option maxRecDepth 20000 in
theorem x_Dr_codesBy_119 {X : am_X} {dd bc bs : Nat} (K : am_ok X b_Dr_codesBy R_Dr 8 dd) {post : Option am_V → List am_C → Prop} (hr : am_rt X (some .long) post) {l4 v_nodes v_numberings v_size v_symmetries : Int32} {l2 v_form : Int64} {v_codes v_sorted : Nat → Int32} {c0 c1 c2 c3 c4 c5 c6 c7 c8 c9 c10 c11 c12 c13 c14 c15 c16 c17 c18 c19 c20 c21 c23 : am_C}
    (h : (v_size ≤ l4 → post (some (aL (l2 <<< (((7 : Int32) * ((7 : Int32) - v_size)).toInt64 &&& 63)))) [c0, c1, c2, c3, c4, c5, c6, c7, c8, c9, c10, c11, c12, c13, c14, c15, c16, c17, c18, c19, c20, c21, oC 4 [aI v_nodes, aI v_numberings, aR 23, aR 24, aI v_size, aL v_form, aI v_symmetries, aR 25], c23, iC 7 v_codes, iC 7 v_sorted]) ∧ (¬ v_size ≤ l4 → vp_in l4 7 ∧ AW X 119 [some (aR 22), none, some (aL ((l2 <<< ((7 : Int32).toInt64 &&& 63)) ||| (((v_sorted l4.toNatClampNeg) + (1 : Int32)).toInt64))), none, some (aI (l4 + 1)), none, none, none] [] [c0, c1, c2, c3, c4, c5, c6, c7, c8, c9, c10, c11, c12, c13, c14, c15, c16, c17, c18, c19, c20, c21, oC 4 [aI v_nodes, aI v_numberings, aR 23, aR 24, aI v_size, aL v_form, aI v_symmetries, aR 25], c23, iC 7 v_codes, iC 7 v_sorted] bc bs)) :
    AW X 119 [some (aR 22), none, some (aL l2), none, some (aI l4), none, none, none] [] [c0, c1, c2, c3, c4, c5, c6, c7, c8, c9, c10, c11, c12, c13, c14, c15, c16, c17, c18, c19, c20, c21, oC 4 [aI v_nodes, aI v_numberings, aR 23, aR 24, aI v_size, aL v_form, aI v_symmetries, aR 25], c23, iC 7 v_codes, iC 7 v_sorted] bc bs := by
  refine aw_iload K d_Dr_codesBy_119 rfl rfl ?_
  refine aw_aload_n K d_Dr_codesBy_121 rfl rfl ?_
  refine aw_getf K fd_Dr_18 d_Dr_codesBy_122 rfl rfl rfl ?_
  refine aw_icmp_ge K d_Dr_codesBy_125 (t := 150) (by decide) rfl (fun q => ?_) (fun q => ?_)
  · replace h := h.1 q
    refine aw_lload_n K d_Dr_codesBy_150 rfl rfl ?_
    refine aw_bipush K d_Dr_codesBy_151 rfl (v := 7) (by decide) ?_
    refine aw_bipush K d_Dr_codesBy_153 rfl (v := 7) (by decide) ?_
    refine aw_aload_n K d_Dr_codesBy_155 rfl rfl ?_
    refine aw_getf K fd_Dr_18 d_Dr_codesBy_156 rfl rfl rfl ?_
    refine aw_isub K d_Dr_codesBy_159 rfl ?_
    refine aw_imul K d_Dr_codesBy_160 rfl ?_
    refine aw_lshl K d_Dr_codesBy_161 rfl ?_
    exact aw_lret K hr d_Dr_codesBy_162 h
  · replace h := h.2 q
    refine aw_lload_n K d_Dr_codesBy_128 rfl rfl ?_
    refine aw_bipush K d_Dr_codesBy_129 rfl (v := 7) (by decide) ?_
    refine aw_lshl K d_Dr_codesBy_131 rfl ?_
    refine aw_aload_n K d_Dr_codesBy_132 rfl rfl ?_
    refine aw_getf K fd_Dr_29 d_Dr_codesBy_133 rfl rfl rfl ?_
    refine aw_iload K d_Dr_codesBy_136 rfl rfl ?_
    refine aw_iald K d_Dr_codesBy_138 rfl rfl h.1 ?_
    replace h := h.2
    refine aw_iconst K d_Dr_codesBy_139 rfl (v := 1) (by decide) ?_
    refine aw_iadd K d_Dr_codesBy_140 rfl ?_
    refine aw_i2l K d_Dr_codesBy_141 rfl ?_
    refine aw_lor K d_Dr_codesBy_142 rfl ?_
    refine aw_lstore_n K d_Dr_codesBy_143 rfl (by decide) (lv' := [some (aR 22), none, some (aL ((l2 <<< ((7 : Int32).toInt64 &&& 63)) ||| (((v_sorted l4.toNatClampNeg) + (1 : Int32)).toInt64))), none, some (aI l4), none, none, none]) rfl ?_
    refine aw_iinc K d_Dr_codesBy_144 rfl rfl (v := l4 + 1) rfl (by decide) (lv' := [some (aR 22), none, some (aL ((l2 <<< ((7 : Int32).toInt64 &&& 63)) ||| (((v_sorted l4.toNatClampNeg) + (1 : Int32)).toInt64))), none, some (aI (l4 + 1)), none, none, none]) rfl ?_
    refine aw_goto K d_Dr_codesBy_147 (n := 119) (by decide) ?_
    exact h

/-! ===== THE LAW: one kind of call after the other ===== -/
abbrev lw_lv (i : Nat) : List (Option am_V) := [some (aR 1000), some (aR 0), some (aR 26), some (aR 45), some (aI (nI i)), none, none]
abbrev lw_w (w1 w2 : List am_C) (f : Nat → Int64) : List am_C := w1 ++ (w2.map (sh_c 26) ++ [jC 1 f])
theorem rm_0 {R : sp_R} {room : Nat} {E : sp_E} {th : Int32} {w : List am_C} (hw : rm R room E th w) : ∃ fs, w[0]? = some (oC 5 fs) := by
  obtain ⟨sm, at9, o, nx, ls, bw, xf, xe, xt, xn, xk, xw, xb, nm, ro, od, le, pa, br, so, al, ot, rfl, -⟩ := hw
  exact ⟨_, rfl⟩
theorem lw_in1 {i L : Nat} (h : i + 3 < L) (hL : L ≤ 2050) : vp_in (nI i + 1) L := by
  rw [show nI i + 1 = nI (i + 1) from nI_1 i]
  exact vp_in_nI (by omega) (by omega)
theorem lw_in2 {i L : Nat} (h : i + 3 < L) (hL : L ≤ 2050) : vp_in (nI i + 2) L := by
  rw [show nI i + 2 = nI (i + 2) from nI_add i 2]
  exact vp_in_nI (by omega) (by omega)
theorem lw_in3 {i L : Nat} (h : i + 3 < L) (hL : L ≤ 2050) : vp_in (nI i + 3) L := by
  rw [show nI i + 3 = nI (i + 3) from nI_add i 3]
  exact vp_in_nI (by omega) (by omega)
theorem lg_cmp_self (x : Int64) : lg_cmp x x = 0 := by simp [lg_cmp]
section LWC
variable {X : am_X} {cc : ByteArray} {own : String} {nl dd pc n bc bs : Nat} {lv : List (Option am_V)} {r stk av : List am_V} {w1 w2 : List am_C} {f : Nat → Int64} {y : MethodName} {b : ByteArray} {maxL d idx : Nat} {ret : Option FieldType} {spec : am_S}
/-- a call of the reference -/
theorem aw_callM (K : am_ok X cc own nl dd) (hM : Con y b maxL ret d 0 0 false spec) (hB : am_cB own idx y b maxL ret av.length) (hI : Cond.instanceMethod y ∈ am_T) (hSel : Cond.selects y.cls y y ∈ am_T) (hdd : d + 1 ≤ dd) (h1 : w1.length = 26) (hcl : classes[5]? = some (y.cls, F_RM, 34)) (hw : ∃ fs, w2[0]? = some (oC 5 fs)) (dg : decode cc pc = .ok (.invokevirtual idx, 3)) (hn : pc + 3 = n) (hav : av.map (sh_v 26) = av) (hstk : stk = av.reverse ++ aR 26 :: r) (hr8 : am_sz r ≤ 8) {F : Option am_V → List am_C → Prop} (h : spec (aR 0 :: av) w2 F)
    (kk : ∀ (rv : Option am_V) (w2' : List am_C), F rv w2' → w2'.length = w2.length ∧ rv.map (sh_v 26) = rv ∧ AW X n lv (rv.toList ++ r) (lw_w w1 w2' f) bc bs) : AW X pc lv stk (lw_w w1 w2 f) bc bs := by
  obtain ⟨fs, hw⟩ := hw
  refine aw_callVF K hM hB hI hSel hdd (pre := w1) (wc := w2) (suf := [jC 1 f]) (show _ = _ by rw [h1]) (ci := 5) (k := 0) hcl hw dg hn (by rw [h1, hav]; exact hstk) hr8 h ?_
  intro rv w2' hF
  obtain ⟨g1, g2, g3⟩ := kk rv w2' hF
  refine ⟨g1, fun w9 h9 => ?_⟩
  have e9 : w9 = lw_w w1 w2' f := by
    have h8 : w9 = w1 ++ (w2'.map (sh_c w1.length) ++ [jC 1 f]) := h9
    rw [h1] at h8
    exact h8
  rw [e9, h1, g2]
  exact g3
/-- a call of the class -/
theorem aw_callC (K : am_ok X cc own nl dd) (hM : Con y b maxL ret d 0 0 false spec) (hB : am_cB own idx y b maxL ret av.length) (hI : Cond.instanceMethod y ∈ am_T) (hSel : Cond.selects y.cls y y ∈ am_T) (hdd : d + 1 ≤ dd) (hcl : classes[0]? = some (y.cls, F_SE, 3)) {fs : List am_V} (hw : w1[0]? = some (oC 0 fs)) (dg : decode cc pc = .ok (.invokevirtual idx, 3)) (hn : pc + 3 = n) (hav : av.map (sh_v 0) = av) (hstk : stk = av.reverse ++ aR 0 :: r) (hr8 : am_sz r ≤ 8) {F : Option am_V → List am_C → Prop} (h : spec (aR 0 :: av) w1 F)
    (kk : ∀ (rv : Option am_V) (w1' : List am_C), F rv w1' → w1'.length = w1.length ∧ rv.map (sh_v 0) = rv ∧ AW X n lv (rv.toList ++ r) (lw_w w1' w2 f) bc bs) : AW X pc lv stk (lw_w w1 w2 f) bc bs := by
  refine aw_callVF K hM hB hI hSel hdd (pre := []) (wc := w1) (suf := w2.map (sh_c 26) ++ [jC 1 f]) fr0 (ci := 0) (k := 0) hcl hw dg hn (by show stk = (av.map (sh_v 0)).reverse ++ _; rw [hav]; exact hstk) hr8 h ?_
  intro rv w1' hF
  obtain ⟨g1, g2, g3⟩ := kk rv w1' hF
  refine ⟨g1, fun w9 h9 => ?_⟩
  cases fr0' h9
  show AW X n lv ((rv.map (sh_v 0)).toList ++ r) _ bc bs
  rw [g2]
  exact g3
end LWC
theorem lw_ez_state {R : sp_R} {E : sp_E} (h : ez E) : ez (o_state R E).2.2 := by
  unfold o_state
  split
  · exact h
  · exact ez_0 _ _ _ _ _ _
theorem lw_ez_message {R : sp_R} {E : sp_E} (h : ez E) : ez (o_message R E).2.2 := by
  unfold o_message
  split
  · exact h
  · exact ez_0 _ _ _ _ _ _
theorem lw_ez_rule {R : sp_R} {E : sp_E} {a b c : Int32} (h : ez E) : ez (o_rule R E a b c).2.2 := by
  unfold o_rule
  split
  · exact h
  · split
    · exact h
    · exact ez_0 _ _ _ _ _ _
theorem lw_ez_sends {R : sp_R} {E : sp_E} {a b c : Int32} (h : ez E) : ez (o_sends R E a b c).2.2 := by
  unfold o_sends
  split
  · exact h
  · split
    · exact h
    · exact ez_0 _ _ _ _ _ _
theorem lw_ez_bad {R : sp_R} {E : sp_E} {a b : Int32} (h : ez E) : ez (o_bad R E a b).2.2 := by
  unfold o_bad
  split
  · exact h
  · split
    · exact h
    · exact ez_0 _ _ _ _ _ _
theorem lw_ez_go {R : sp_R} {room : Nat} {E : sp_E} {a : Int32} (h : ez E) (hR : rv R) : ez (o_go R room E a).2.2 := by
  unfold o_go
  split
  · exact h
  · exact ez_on R room _ E hR.1.2.2.2.2
theorem lw_k_state {R : sp_R} {E : sp_E} : (o_state R E).1.1 ≤ 2 := by
  unfold o_state
  split <;> simp
theorem lw_k_message {R : sp_R} {E : sp_E} : (o_message R E).1.1 ≤ 2 := by
  unfold o_message
  split <;> simp
theorem lw_k_rule {R : sp_R} {E : sp_E} {a b c : Int32} : (o_rule R E a b c).1.1 ≤ 2 := by
  unfold o_rule
  split
  · simp
  · split <;> simp
theorem lw_k_sends {R : sp_R} {E : sp_E} {a b c : Int32} : (o_sends R E a b c).1.1 ≤ 2 := by
  unfold o_sends
  split
  · simp
  · split <;> simp
theorem lw_k_bad {R : sp_R} {E : sp_E} {a b : Int32} : (o_bad R E a b).1.1 ≤ 2 := by
  unfold o_bad
  split
  · simp
  · split <;> simp
theorem lw_01 {R : sp_R} {E : sp_E} {a b : Int32} (h : (o_bad R E a b).1.1 = 0) : (o_bad R E a b).1.2 = 0 ∨ (o_bad R E a b).1.2 = 1 := by
  unfold o_bad
  split
  · exact .inl rfl
  · split
    · exact .inl rfl
    · exact .inr rfl
theorem lw_k_go {R : sp_R} {room : Nat} {E : sp_E} {a : Int32} : (o_go R room E a).1.1 ≤ 2 := by
  unfold o_go
  split <;> simp
theorem lw_k_node {R : sp_R} {E : sp_E} {a b : Int32} : (o_node R E a b).1 ≤ 2 := by
  unfold o_node
  split <;> simp
theorem lw_k_code {E : sp_E} {a b : Int32} : (o_code E a b).1 ≤ 2 := by
  unfold o_code
  split <;> simp
theorem lw_k_whole {E : sp_E} {a b : Int32} : (o_whole E a b).1 ≤ 2 := by
  unfold o_whole
  split <;> simp
theorem lw_k_wayAt {E : sp_E} {a : Int32} : (o_wayAt E a).1 ≤ 2 := by
  unfold o_wayAt
  split <;> simp
theorem cH_La_62 : am_cH R_La 62 y_La_state b_La_state 3 (some .int) [(0, 8, 11, 13)] 2 := ⟨ax_mem (by decide +kernel), ax_mem (by decide +kernel), ax_mem (by decide +kernel), ax_mem (by decide +kernel), by decide +kernel, by decide⟩
theorem cb_La_65 : am_cB R_La 65 y_RM_state b_RM_state 1 (some .int) 0 := ⟨ax_mem (by decide +kernel), ax_mem (by decide +kernel), ax_mem (by decide +kernel), by decide +kernel, by decide⟩
theorem cil_RM_state : Cond.instanceMethod y_RM_state ∈ am_T := ax_mem (by decide +kernel)
theorem csl_RM_state : Cond.selects y_RM_state.cls y_RM_state y_RM_state ∈ am_T := ax_mem (by decide +kernel)
theorem cb_La_66 : am_cB R_La 66 y_RM_thrown b_RM_thrown 1 (some .int) 0 := ⟨ax_mem (by decide +kernel), ax_mem (by decide +kernel), ax_mem (by decide +kernel), by decide +kernel, by decide⟩
theorem cil_RM_thrown : Cond.instanceMethod y_RM_thrown ∈ am_T := ax_mem (by decide +kernel)
theorem csl_RM_thrown : Cond.selects y_RM_thrown.cls y_RM_thrown y_RM_thrown ∈ am_T := ax_mem (by decide +kernel)
theorem cH_La_69 : am_cH R_La 69 y_La_message b_La_message 3 (some .int) [(0, 8, 11, 13)] 2 := ⟨ax_mem (by decide +kernel), ax_mem (by decide +kernel), ax_mem (by decide +kernel), ax_mem (by decide +kernel), by decide +kernel, by decide⟩
theorem cb_La_71 : am_cB R_La 71 y_RM_message b_RM_message 1 (some .int) 0 := ⟨ax_mem (by decide +kernel), ax_mem (by decide +kernel), ax_mem (by decide +kernel), by decide +kernel, by decide⟩
theorem cil_RM_message : Cond.instanceMethod y_RM_message ∈ am_T := ax_mem (by decide +kernel)
theorem csl_RM_message : Cond.selects y_RM_message.cls y_RM_message y_RM_message ∈ am_T := ax_mem (by decide +kernel)
theorem cH_La_72 : am_cH R_La 72 y_La_rule b_La_rule 6 (some .int) [(0, 12, 15, 22), (0, 12, 19, 13)] 5 := ⟨ax_mem (by decide +kernel), ax_mem (by decide +kernel), ax_mem (by decide +kernel), ax_mem (by decide +kernel), by decide +kernel, by decide⟩
theorem cb_La_75 : am_cB R_La 75 y_RM_rule b_RM_rule 4 (some .int) 3 := ⟨ax_mem (by decide +kernel), ax_mem (by decide +kernel), ax_mem (by decide +kernel), by decide +kernel, by decide⟩
theorem cil_RM_rule : Cond.instanceMethod y_RM_rule ∈ am_T := ax_mem (by decide +kernel)
theorem csl_RM_rule : Cond.selects y_RM_rule.cls y_RM_rule y_RM_rule ∈ am_T := ax_mem (by decide +kernel)
theorem cH_La_76 : am_cH R_La 76 y_La_sends b_La_sends 6 (some .int) [(0, 12, 15, 22), (0, 12, 19, 13)] 5 := ⟨ax_mem (by decide +kernel), ax_mem (by decide +kernel), ax_mem (by decide +kernel), ax_mem (by decide +kernel), by decide +kernel, by decide⟩
theorem cb_La_78 : am_cB R_La 78 y_RM_sends b_RM_sends 5 (some .int) 3 := ⟨ax_mem (by decide +kernel), ax_mem (by decide +kernel), ax_mem (by decide +kernel), by decide +kernel, by decide⟩
theorem cil_RM_sends : Cond.instanceMethod y_RM_sends ∈ am_T := ax_mem (by decide +kernel)
theorem csl_RM_sends : Cond.selects y_RM_sends.cls y_RM_sends y_RM_sends ∈ am_T := ax_mem (by decide +kernel)
theorem cH_La_79 : am_cH R_La 79 y_La_bad b_La_bad 5 (some .int) [(0, 17, 20, 22)] 4 := ⟨ax_mem (by decide +kernel), ax_mem (by decide +kernel), ax_mem (by decide +kernel), ax_mem (by decide +kernel), by decide +kernel, by decide⟩
theorem cb_La_82 : am_cB R_La 82 y_RM_bad b_RM_bad 3 (some .boolean) 2 := ⟨ax_mem (by decide +kernel), ax_mem (by decide +kernel), ax_mem (by decide +kernel), by decide +kernel, by decide⟩
theorem cil_RM_bad : Cond.instanceMethod y_RM_bad ∈ am_T := ax_mem (by decide +kernel)
theorem csl_RM_bad : Cond.selects y_RM_bad.cls y_RM_bad y_RM_bad ∈ am_T := ax_mem (by decide +kernel)
theorem cH_La_87 : am_cH R_La 87 y_La_go b_La_go 4 (some .int) [(0, 9, 12, 22)] 3 := ⟨ax_mem (by decide +kernel), ax_mem (by decide +kernel), ax_mem (by decide +kernel), ax_mem (by decide +kernel), by decide +kernel, by decide⟩
theorem cb_La_90 : am_cB R_La 90 y_RM_go b_RM_go 3 (some .int) 1 := ⟨ax_mem (by decide +kernel), ax_mem (by decide +kernel), ax_mem (by decide +kernel), by decide +kernel, by decide⟩
theorem cil_RM_go : Cond.instanceMethod y_RM_go ∈ am_T := ax_mem (by decide +kernel)
theorem csl_RM_go : Cond.selects y_RM_go.cls y_RM_go y_RM_go ∈ am_T := ax_mem (by decide +kernel)
theorem cH_La_91 : am_cH R_La 91 y_La_node b_La_node 5 (some .int) [(0, 10, 13, 39)] 4 := ⟨ax_mem (by decide +kernel), ax_mem (by decide +kernel), ax_mem (by decide +kernel), ax_mem (by decide +kernel), by decide +kernel, by decide⟩
theorem cb_La_93 : am_cB R_La 93 y_RM_node b_RM_node 3 (some .int) 2 := ⟨ax_mem (by decide +kernel), ax_mem (by decide +kernel), ax_mem (by decide +kernel), by decide +kernel, by decide⟩
theorem cil_RM_node : Cond.instanceMethod y_RM_node ∈ am_T := ax_mem (by decide +kernel)
theorem csl_RM_node : Cond.selects y_RM_node.cls y_RM_node y_RM_node ∈ am_T := ax_mem (by decide +kernel)
theorem cH_La_94 : am_cH R_La 94 y_La_code b_La_code 5 (some .int) [(0, 10, 13, 39)] 4 := ⟨ax_mem (by decide +kernel), ax_mem (by decide +kernel), ax_mem (by decide +kernel), ax_mem (by decide +kernel), by decide +kernel, by decide⟩
theorem cb_La_96 : am_cB R_La 96 y_RM_code b_RM_code 3 (some .int) 2 := ⟨ax_mem (by decide +kernel), ax_mem (by decide +kernel), ax_mem (by decide +kernel), by decide +kernel, by decide⟩
theorem cil_RM_code : Cond.instanceMethod y_RM_code ∈ am_T := ax_mem (by decide +kernel)
theorem csl_RM_code : Cond.selects y_RM_code.cls y_RM_code y_RM_code ∈ am_T := ax_mem (by decide +kernel)
theorem cH_La_97 : am_cH R_La 97 y_La_whole b_La_whole 5 (some .int) [(0, 10, 13, 39)] 4 := ⟨ax_mem (by decide +kernel), ax_mem (by decide +kernel), ax_mem (by decide +kernel), ax_mem (by decide +kernel), by decide +kernel, by decide⟩
theorem cb_La_99 : am_cB R_La 99 y_RM_whole b_RM_whole 3 (some .int) 2 := ⟨ax_mem (by decide +kernel), ax_mem (by decide +kernel), ax_mem (by decide +kernel), by decide +kernel, by decide⟩
theorem cil_RM_whole : Cond.instanceMethod y_RM_whole ∈ am_T := ax_mem (by decide +kernel)
theorem csl_RM_whole : Cond.selects y_RM_whole.cls y_RM_whole y_RM_whole ∈ am_T := ax_mem (by decide +kernel)
theorem cH_La_104 : am_cH R_La 104 y_La_wayAt b_La_wayAt 4 (some .int) [(0, 9, 12, 39)] 3 := ⟨ax_mem (by decide +kernel), ax_mem (by decide +kernel), ax_mem (by decide +kernel), ax_mem (by decide +kernel), by decide +kernel, by decide⟩
theorem cb_La_106 : am_cB R_La 106 y_RM_wayAt b_RM_wayAt 3 (some .int) 1 := ⟨ax_mem (by decide +kernel), ax_mem (by decide +kernel), ax_mem (by decide +kernel), by decide +kernel, by decide⟩
theorem cil_RM_wayAt : Cond.instanceMethod y_RM_wayAt ∈ am_T := ax_mem (by decide +kernel)
theorem csl_RM_wayAt : Cond.selects y_RM_wayAt.cls y_RM_wayAt y_RM_wayAt ∈ am_T := ax_mem (by decide +kernel)
theorem cb_La_83 : am_cB R_La 83 y_SE_run b_SE_run 1 (some .int) 0 := ⟨ax_mem (by decide +kernel), cn_SE, ax_mem (by decide +kernel), by decide +kernel, by decide⟩
theorem ci_SE_run : Cond.instanceMethod y_SE_run ∈ am_T := ax_mem (by decide +kernel)
theorem cs_SE_run : Cond.selects y_SE_run.cls y_SE_run y_SE_run ∈ am_T := ax_mem (by decide +kernel)
theorem cb_La_86 : am_cB R_La 86 y_RM_run b_RM_run 1 (some .int) 0 := ⟨ax_mem (by decide +kernel), ax_mem (by decide +kernel), ax_mem (by decide +kernel), by decide +kernel, by decide⟩
theorem cil_RM_run : Cond.instanceMethod y_RM_run ∈ am_T := ax_mem (by decide +kernel)
theorem csl_RM_run : Cond.selects y_RM_run.cls y_RM_run y_RM_run ∈ am_T := ax_mem (by decide +kernel)
theorem cb_La_100 : am_cB R_La 100 y_SE_way b_SE_way 1 (some .int) 0 := ⟨ax_mem (by decide +kernel), cn_SE, ax_mem (by decide +kernel), by decide +kernel, by decide⟩
theorem ci_SE_way : Cond.instanceMethod y_SE_way ∈ am_T := ax_mem (by decide +kernel)
theorem cs_SE_way : Cond.selects y_SE_way.cls y_SE_way y_SE_way ∈ am_T := ax_mem (by decide +kernel)
theorem cb_La_103 : am_cB R_La 103 y_RM_way b_RM_way 1 (some .int) 0 := ⟨ax_mem (by decide +kernel), ax_mem (by decide +kernel), ax_mem (by decide +kernel), by decide +kernel, by decide⟩
theorem cil_RM_way : Cond.instanceMethod y_RM_way ∈ am_T := ax_mem (by decide +kernel)
theorem csl_RM_way : Cond.selects y_RM_way.cls y_RM_way y_RM_way ∈ am_T := ax_mem (by decide +kernel)
theorem cb_La_107 : am_cB R_La 107 y_SE_count b_SE_count 2 (some .int) 1 := ⟨ax_mem (by decide +kernel), cn_SE, ax_mem (by decide +kernel), by decide +kernel, by decide⟩
theorem ci_SE_count : Cond.instanceMethod y_SE_count ∈ am_T := ax_mem (by decide +kernel)
theorem cs_SE_count : Cond.selects y_SE_count.cls y_SE_count y_SE_count ∈ am_T := ax_mem (by decide +kernel)
theorem cb_La_110 : am_cB R_La 110 y_RM_count b_RM_count 2 (some .int) 1 := ⟨ax_mem (by decide +kernel), ax_mem (by decide +kernel), ax_mem (by decide +kernel), by decide +kernel, by decide⟩
theorem cil_RM_count : Cond.instanceMethod y_RM_count ∈ am_T := ax_mem (by decide +kernel)
theorem csl_RM_count : Cond.selects y_RM_count.cls y_RM_count y_RM_count ∈ am_T := ax_mem (by decide +kernel)
set_option maxRecDepth 20000 in
theorem op_state {X : am_X} (K : am_ok X code R_La 7 10) (hE : am_ex X) {b0 L : Nat} {xs : Nat → Int32} (hsc : am_sc X b0 L xs) {R : sp_R} {room e i bc bs : Nat} {E : sp_E} {w1 w2 : List am_C} {th : Int32} {f : Nat → Int64} (hL : L ≤ 2050) (hi : i + 3 < L) (hw1 : rx R room e E w1) (hw2 : rm R room E th w2) (hz : ez E) (hc1 : 1 ≤ bc) (hc2 : 6 ≤ bs)
    (kk : ∀ (R' : sp_R) (E' : sp_E) (w1' w2' : List am_C) (th' : Int32) (f' : Nat → Int64), rx R' room e E' w1' → rm R' room E' th' w2' → ez E' → AW X 814 (lw_lv i) [] (lw_w w1' w2' f') (bc - 1) (bs - 6)) : AW X 124 (lw_lv i) [] (lw_w w1 w2 f) bc bs := by
  refine aw_aload_n K d_La_law_124 rfl rfl ?_
  refine aw_aload_n K d_La_law_125 rfl rfl ?_
  refine aw_callSH K hE c_La_state cH_La_62 (by decide) d_La_law_126 rfl (av := [aR 0, aR 45]) rfl (Nat.le_of_ble_eq_true rfl) hc1 hc2 (F := fun rv w9 => ∃ (w1' : List am_C) (f' : Nat → Int64), rv = some (aI (nI (o_state R E).1.1)) ∧ w9 = lw_w w1' w2 f' ∧ rx (o_state R E).2.1 room e (o_state R E).2.2 w1' ∧ ((o_state R E).1.1 = 0 → f' 0 = ((o_state R E).1.2).toInt64)) ⟨R, room, e, E, w1, w2.map (sh_c 26), f, rfl, rfl, by rw [List.length_map]; exact (rm_vs hw2).2.2.2, hw1, fun w1' f' h1 h2 => ⟨w1', f', rfl, rfl, h1, h2⟩⟩ ?_
  intro rv w9 hF
  obtain ⟨w1', f', rfl, rfl, hx1, hv⟩ := hF
  have hl1 := rx_len hx1
  refine aw_istore K d_La_law_129 rfl (by decide) (lv' := [some (aR 1000), some (aR 0), some (aR 26), some (aR 45), some (aI (nI i)), some (aI (nI (o_state R E).1.1)), none]) rfl ?_
  refine aw_aload_n K d_La_law_131 rfl rfl ?_
  refine aw_callM K c_RM_state cb_La_65 cil_RM_state csl_RM_state (by decide) hl1 rfl (rm_0 hw2) d_La_law_132 rfl (av := []) rfl rfl (Nat.le_of_ble_eq_true rfl) (F := fun rv w9 => rv = some (aI (o_state R E).1.2) ∧ rm (o_state R E).2.1 room (o_state R E).2.2 (nI (o_state R E).1.1) w9) ⟨R, room, E, th, rfl, (rm_vs hw2).2.2.2, hw2, fun w9 h9 => ⟨rfl, h9⟩⟩ ?_
  intro rv w2' hF
  obtain ⟨rfl, hx2⟩ := hF
  refine ⟨(rm_vs hx2).2.2.2.trans (rm_vs hw2).2.2.2.symm, rfl, ?_⟩
  refine aw_istore K d_La_law_135 rfl (by decide) (lv' := [some (aR 1000), some (aR 0), some (aR 26), some (aR 45), some (aI (nI i)), some (aI (nI (o_state R E).1.1)), some (aI ((o_state R E).1.2))]) rfl ?_
  refine aw_aload_n K d_La_law_137 rfl rfl ?_
  refine aw_callM K c_RM_thrown cb_La_66 cil_RM_thrown csl_RM_thrown (by decide) hl1 rfl (rm_0 hx2) d_La_law_138 rfl (av := []) rfl rfl (Nat.le_of_ble_eq_true rfl) (F := fun rv w9 => rv = some (aI (nI (o_state R E).1.1)) ∧ w9 = w2') ⟨_, room, _, _, rfl, (rm_vs hx2).2.2.2, hx2, rfl, rfl⟩ ?_
  intro rv w9 hF
  obtain ⟨rfl, e9⟩ := hF
  rw [e9]
  refine ⟨rfl, rfl, ?_⟩
  refine aw_iload K d_La_law_141 rfl rfl ?_
  refine aw_icmp_eq K d_La_law_143 (t := 148) (by decide) rfl (fun _ => ?_) (fun z => absurd rfl z)
  refine aw_iload K d_La_law_148 rfl rfl ?_
  have hend : AW X 165 [some (aR 1000), some (aR 0), some (aR 26), some (aR 45), some (aI (nI i)), some (aI (nI (o_state R E).1.1)), some (aI ((o_state R E).1.2))] [] (lw_w w1' w2' f') (bc - 1) (bs - 6) := by
    refine aw_goto K d_La_law_165 (n := 814) (by decide) ?_
    refine aw_less [5, 6] rfl ?_
    exact kk _ _ w1' w2' _ f' hx1 hx2 (lw_ez_state hz)
  refine aw_if_ne K d_La_law_150 (t := 165) (by decide) rfl (fun _ => hend) (fun z => ?_)
  have hk0 : (o_state R E).1.1 = 0 := rn_inj (Nat.lt_of_le_of_lt lw_k_state (by decide)) (by decide) z
  have hv0 := hv hk0
  refine aw_aload_n K d_La_law_153 rfl rfl ?_
  refine aw_iconst K d_La_law_154 rfl (v := 0) (by decide) ?_
  refine aw_lald K d_La_law_155 rfl (out_at hl1 (by rw [List.length_map]; exact (rm_vs hx2).2.2.2)) vp_in01 ?_
  refine aw_iload K d_La_law_156 rfl rfl ?_
  refine aw_i2l K d_La_law_158 rfl ?_
  refine aw_lcmp K d_La_law_159 rfl ?_
  exact aw_if_eq K d_La_law_160 (t := 165) (by decide) rfl (fun _ => hend) (fun z => absurd (show lg_cmp (f' 0) _ = 0 by rw [hv0]; exact lg_cmp_self _) z)
set_option maxRecDepth 20000 in
theorem op_message {X : am_X} (K : am_ok X code R_La 7 10) (hE : am_ex X) {b0 L : Nat} {xs : Nat → Int32} (hsc : am_sc X b0 L xs) {R : sp_R} {room e i bc bs : Nat} {E : sp_E} {w1 w2 : List am_C} {th : Int32} {f : Nat → Int64} (hL : L ≤ 2050) (hi : i + 3 < L) (hw1 : rx R room e E w1) (hw2 : rm R room E th w2) (hz : ez E) (hc1 : 1 ≤ bc) (hc2 : 6 ≤ bs)
    (kk : ∀ (R' : sp_R) (E' : sp_E) (w1' w2' : List am_C) (th' : Int32) (f' : Nat → Int64), rx R' room e E' w1' → rm R' room E' th' w2' → ez E' → AW X 814 (lw_lv i) [] (lw_w w1' w2' f') (bc - 1) (bs - 6)) : AW X 168 (lw_lv i) [] (lw_w w1 w2 f) bc bs := by
  refine aw_aload_n K d_La_law_168 rfl rfl ?_
  refine aw_aload_n K d_La_law_169 rfl rfl ?_
  refine aw_callSH K hE c_La_message cH_La_69 (by decide) d_La_law_170 rfl (av := [aR 0, aR 45]) rfl (Nat.le_of_ble_eq_true rfl) hc1 hc2 (F := fun rv w9 => ∃ (w1' : List am_C) (f' : Nat → Int64), rv = some (aI (nI (o_message R E).1.1)) ∧ w9 = lw_w w1' w2 f' ∧ rx (o_message R E).2.1 room e (o_message R E).2.2 w1' ∧ ((o_message R E).1.1 = 0 → f' 0 = ((o_message R E).1.2).toInt64)) ⟨R, room, e, E, w1, w2.map (sh_c 26), f, rfl, rfl, by rw [List.length_map]; exact (rm_vs hw2).2.2.2, hw1, fun w1' f' h1 h2 => ⟨w1', f', rfl, rfl, h1, h2⟩⟩ ?_
  intro rv w9 hF
  obtain ⟨w1', f', rfl, rfl, hx1, hv⟩ := hF
  have hl1 := rx_len hx1
  refine aw_istore K d_La_law_173 rfl (by decide) (lv' := [some (aR 1000), some (aR 0), some (aR 26), some (aR 45), some (aI (nI i)), some (aI (nI (o_message R E).1.1)), none]) rfl ?_
  refine aw_aload_n K d_La_law_175 rfl rfl ?_
  refine aw_callM K c_RM_message cb_La_71 cil_RM_message csl_RM_message (by decide) hl1 rfl (rm_0 hw2) d_La_law_176 rfl (av := []) rfl rfl (Nat.le_of_ble_eq_true rfl) (F := fun rv w9 => rv = some (aI (o_message R E).1.2) ∧ rm (o_message R E).2.1 room (o_message R E).2.2 (nI (o_message R E).1.1) w9) ⟨R, room, E, th, rfl, (rm_vs hw2).2.2.2, hw2, fun w9 h9 => ⟨rfl, h9⟩⟩ ?_
  intro rv w2' hF
  obtain ⟨rfl, hx2⟩ := hF
  refine ⟨(rm_vs hx2).2.2.2.trans (rm_vs hw2).2.2.2.symm, rfl, ?_⟩
  refine aw_istore K d_La_law_179 rfl (by decide) (lv' := [some (aR 1000), some (aR 0), some (aR 26), some (aR 45), some (aI (nI i)), some (aI (nI (o_message R E).1.1)), some (aI ((o_message R E).1.2))]) rfl ?_
  refine aw_aload_n K d_La_law_181 rfl rfl ?_
  refine aw_callM K c_RM_thrown cb_La_66 cil_RM_thrown csl_RM_thrown (by decide) hl1 rfl (rm_0 hx2) d_La_law_182 rfl (av := []) rfl rfl (Nat.le_of_ble_eq_true rfl) (F := fun rv w9 => rv = some (aI (nI (o_message R E).1.1)) ∧ w9 = w2') ⟨_, room, _, _, rfl, (rm_vs hx2).2.2.2, hx2, rfl, rfl⟩ ?_
  intro rv w9 hF
  obtain ⟨rfl, e9⟩ := hF
  rw [e9]
  refine ⟨rfl, rfl, ?_⟩
  refine aw_iload K d_La_law_185 rfl rfl ?_
  refine aw_icmp_eq K d_La_law_187 (t := 192) (by decide) rfl (fun _ => ?_) (fun z => absurd rfl z)
  refine aw_iload K d_La_law_192 rfl rfl ?_
  have hend : AW X 209 [some (aR 1000), some (aR 0), some (aR 26), some (aR 45), some (aI (nI i)), some (aI (nI (o_message R E).1.1)), some (aI ((o_message R E).1.2))] [] (lw_w w1' w2' f') (bc - 1) (bs - 6) := by
    refine aw_goto K d_La_law_209 (n := 814) (by decide) ?_
    refine aw_less [5, 6] rfl ?_
    exact kk _ _ w1' w2' _ f' hx1 hx2 (lw_ez_message hz)
  refine aw_if_ne K d_La_law_194 (t := 209) (by decide) rfl (fun _ => hend) (fun z => ?_)
  have hk0 : (o_message R E).1.1 = 0 := rn_inj (Nat.lt_of_le_of_lt lw_k_message (by decide)) (by decide) z
  have hv0 := hv hk0
  refine aw_aload_n K d_La_law_197 rfl rfl ?_
  refine aw_iconst K d_La_law_198 rfl (v := 0) (by decide) ?_
  refine aw_lald K d_La_law_199 rfl (out_at hl1 (by rw [List.length_map]; exact (rm_vs hx2).2.2.2)) vp_in01 ?_
  refine aw_iload K d_La_law_200 rfl rfl ?_
  refine aw_i2l K d_La_law_202 rfl ?_
  refine aw_lcmp K d_La_law_203 rfl ?_
  exact aw_if_eq K d_La_law_204 (t := 209) (by decide) rfl (fun _ => hend) (fun z => absurd (show lg_cmp (f' 0) _ = 0 by rw [hv0]; exact lg_cmp_self _) z)
set_option maxRecDepth 20000 in
theorem op_rule {X : am_X} (K : am_ok X code R_La 7 10) (hE : am_ex X) {b0 L : Nat} {xs : Nat → Int32} (hsc : am_sc X b0 L xs) {R : sp_R} {room e i bc bs : Nat} {E : sp_E} {w1 w2 : List am_C} {th : Int32} {f : Nat → Int64} (hL : L ≤ 2050) (hi : i + 3 < L) (hw1 : rx R room e E w1) (hw2 : rm R room E th w2) (hz : ez E) (hc1 : 1 ≤ bc) (hc2 : 6 ≤ bs)
    (kk : ∀ (R' : sp_R) (E' : sp_E) (w1' w2' : List am_C) (th' : Int32) (f' : Nat → Int64), rx R' room e E' w1' → rm R' room E' th' w2' → ez E' → AW X 814 (lw_lv i) [] (lw_w w1' w2' f') (bc - 1) (bs - 6)) : AW X 212 (lw_lv i) [] (lw_w w1 w2 f) bc bs := by
  refine aw_aload_n K d_La_law_212 rfl rfl ?_
  refine aw_aload_n K d_La_law_213 rfl rfl ?_
  refine aw_iload K d_La_law_214 rfl rfl ?_
  refine aw_iconst K d_La_law_216 rfl (v := 1) (by decide) ?_
  refine aw_iadd K d_La_law_217 rfl ?_
  refine aw_sld K hsc d_La_law_218 rfl (lw_in1 (by omega) (by omega)) ?_
  refine aw_aload_n K d_La_law_219 rfl rfl ?_
  refine aw_iload K d_La_law_220 rfl rfl ?_
  refine aw_iconst K d_La_law_222 rfl (v := 2) (by decide) ?_
  refine aw_iadd K d_La_law_223 rfl ?_
  refine aw_sld K hsc d_La_law_224 rfl (lw_in2 (by omega) (by omega)) ?_
  refine aw_aload_n K d_La_law_225 rfl rfl ?_
  refine aw_iload K d_La_law_226 rfl rfl ?_
  refine aw_iconst K d_La_law_228 rfl (v := 3) (by decide) ?_
  refine aw_iadd K d_La_law_229 rfl ?_
  refine aw_sld K hsc d_La_law_230 rfl (lw_in3 (by omega) (by omega)) ?_
  refine aw_aload_n K d_La_law_231 rfl rfl ?_
  refine aw_callSH K hE c_La_rule cH_La_72 (by decide) d_La_law_232 rfl (av := [aR 0, aI (xs (nI i + 1).toNatClampNeg), aI (xs (nI i + 2).toNatClampNeg), aI (xs (nI i + 3).toNatClampNeg), aR 45]) rfl (Nat.le_of_ble_eq_true rfl) hc1 hc2 (F := fun rv w9 => ∃ (w1' : List am_C) (f' : Nat → Int64), rv = some (aI (nI (o_rule R E (xs (nI i + 1).toNatClampNeg) (xs (nI i + 2).toNatClampNeg) (xs (nI i + 3).toNatClampNeg)).1.1)) ∧ w9 = lw_w w1' w2 f' ∧ rx (o_rule R E (xs (nI i + 1).toNatClampNeg) (xs (nI i + 2).toNatClampNeg) (xs (nI i + 3).toNatClampNeg)).2.1 room e (o_rule R E (xs (nI i + 1).toNatClampNeg) (xs (nI i + 2).toNatClampNeg) (xs (nI i + 3).toNatClampNeg)).2.2 w1' ∧ ((o_rule R E (xs (nI i + 1).toNatClampNeg) (xs (nI i + 2).toNatClampNeg) (xs (nI i + 3).toNatClampNeg)).1.1 = 0 → f' 0 = ((o_rule R E (xs (nI i + 1).toNatClampNeg) (xs (nI i + 2).toNatClampNeg) (xs (nI i + 3).toNatClampNeg)).1.2).toInt64)) ⟨R, room, e, E, (xs (nI i + 1).toNatClampNeg), (xs (nI i + 2).toNatClampNeg), (xs (nI i + 3).toNatClampNeg), w1, w2.map (sh_c 26), f, rfl, rfl, by rw [List.length_map]; exact (rm_vs hw2).2.2.2, hw1, fun w1' f' h1 h2 => ⟨w1', f', rfl, rfl, h1, h2⟩⟩ ?_
  intro rv w9 hF
  obtain ⟨w1', f', rfl, rfl, hx1, hv⟩ := hF
  have hl1 := rx_len hx1
  refine aw_istore K d_La_law_235 rfl (by decide) (lv' := [some (aR 1000), some (aR 0), some (aR 26), some (aR 45), some (aI (nI i)), some (aI (nI (o_rule R E (xs (nI i + 1).toNatClampNeg) (xs (nI i + 2).toNatClampNeg) (xs (nI i + 3).toNatClampNeg)).1.1)), none]) rfl ?_
  refine aw_aload_n K d_La_law_237 rfl rfl ?_
  refine aw_aload_n K d_La_law_238 rfl rfl ?_
  refine aw_iload K d_La_law_239 rfl rfl ?_
  refine aw_iconst K d_La_law_241 rfl (v := 1) (by decide) ?_
  refine aw_iadd K d_La_law_242 rfl ?_
  refine aw_sld K hsc d_La_law_243 rfl (lw_in1 (by omega) (by omega)) ?_
  refine aw_aload_n K d_La_law_244 rfl rfl ?_
  refine aw_iload K d_La_law_245 rfl rfl ?_
  refine aw_iconst K d_La_law_247 rfl (v := 2) (by decide) ?_
  refine aw_iadd K d_La_law_248 rfl ?_
  refine aw_sld K hsc d_La_law_249 rfl (lw_in2 (by omega) (by omega)) ?_
  refine aw_aload_n K d_La_law_250 rfl rfl ?_
  refine aw_iload K d_La_law_251 rfl rfl ?_
  refine aw_iconst K d_La_law_253 rfl (v := 3) (by decide) ?_
  refine aw_iadd K d_La_law_254 rfl ?_
  refine aw_sld K hsc d_La_law_255 rfl (lw_in3 (by omega) (by omega)) ?_
  refine aw_callM K c_RM_rule cb_La_75 cil_RM_rule csl_RM_rule (by decide) hl1 rfl (rm_0 hw2) d_La_law_256 rfl (av := [aI (xs (nI i + 1).toNatClampNeg), aI (xs (nI i + 2).toNatClampNeg), aI (xs (nI i + 3).toNatClampNeg)]) rfl rfl (Nat.le_of_ble_eq_true rfl) (F := fun rv w9 => rv = some (aI (o_rule R E (xs (nI i + 1).toNatClampNeg) (xs (nI i + 2).toNatClampNeg) (xs (nI i + 3).toNatClampNeg)).1.2) ∧ rm (o_rule R E (xs (nI i + 1).toNatClampNeg) (xs (nI i + 2).toNatClampNeg) (xs (nI i + 3).toNatClampNeg)).2.1 room (o_rule R E (xs (nI i + 1).toNatClampNeg) (xs (nI i + 2).toNatClampNeg) (xs (nI i + 3).toNatClampNeg)).2.2 (nI (o_rule R E (xs (nI i + 1).toNatClampNeg) (xs (nI i + 2).toNatClampNeg) (xs (nI i + 3).toNatClampNeg)).1.1) w9) ⟨R, room, E, th, (xs (nI i + 1).toNatClampNeg), (xs (nI i + 2).toNatClampNeg), (xs (nI i + 3).toNatClampNeg), rfl, (rm_vs hw2).2.2.2, hw2, fun w9 h9 => ⟨rfl, h9⟩⟩ ?_
  intro rv w2' hF
  obtain ⟨rfl, hx2⟩ := hF
  refine ⟨(rm_vs hx2).2.2.2.trans (rm_vs hw2).2.2.2.symm, rfl, ?_⟩
  refine aw_istore K d_La_law_259 rfl (by decide) (lv' := [some (aR 1000), some (aR 0), some (aR 26), some (aR 45), some (aI (nI i)), some (aI (nI (o_rule R E (xs (nI i + 1).toNatClampNeg) (xs (nI i + 2).toNatClampNeg) (xs (nI i + 3).toNatClampNeg)).1.1)), some (aI ((o_rule R E (xs (nI i + 1).toNatClampNeg) (xs (nI i + 2).toNatClampNeg) (xs (nI i + 3).toNatClampNeg)).1.2))]) rfl ?_
  refine aw_aload_n K d_La_law_261 rfl rfl ?_
  refine aw_callM K c_RM_thrown cb_La_66 cil_RM_thrown csl_RM_thrown (by decide) hl1 rfl (rm_0 hx2) d_La_law_262 rfl (av := []) rfl rfl (Nat.le_of_ble_eq_true rfl) (F := fun rv w9 => rv = some (aI (nI (o_rule R E (xs (nI i + 1).toNatClampNeg) (xs (nI i + 2).toNatClampNeg) (xs (nI i + 3).toNatClampNeg)).1.1)) ∧ w9 = w2') ⟨_, room, _, _, rfl, (rm_vs hx2).2.2.2, hx2, rfl, rfl⟩ ?_
  intro rv w9 hF
  obtain ⟨rfl, e9⟩ := hF
  rw [e9]
  refine ⟨rfl, rfl, ?_⟩
  refine aw_iload K d_La_law_265 rfl rfl ?_
  refine aw_icmp_eq K d_La_law_267 (t := 272) (by decide) rfl (fun _ => ?_) (fun z => absurd rfl z)
  refine aw_iload K d_La_law_272 rfl rfl ?_
  have hend : AW X 289 [some (aR 1000), some (aR 0), some (aR 26), some (aR 45), some (aI (nI i)), some (aI (nI (o_rule R E (xs (nI i + 1).toNatClampNeg) (xs (nI i + 2).toNatClampNeg) (xs (nI i + 3).toNatClampNeg)).1.1)), some (aI ((o_rule R E (xs (nI i + 1).toNatClampNeg) (xs (nI i + 2).toNatClampNeg) (xs (nI i + 3).toNatClampNeg)).1.2))] [] (lw_w w1' w2' f') (bc - 1) (bs - 6) := by
    refine aw_goto K d_La_law_289 (n := 814) (by decide) ?_
    refine aw_less [5, 6] rfl ?_
    exact kk _ _ w1' w2' _ f' hx1 hx2 (lw_ez_rule hz)
  refine aw_if_ne K d_La_law_274 (t := 289) (by decide) rfl (fun _ => hend) (fun z => ?_)
  have hk0 : (o_rule R E (xs (nI i + 1).toNatClampNeg) (xs (nI i + 2).toNatClampNeg) (xs (nI i + 3).toNatClampNeg)).1.1 = 0 := rn_inj (Nat.lt_of_le_of_lt lw_k_rule (by decide)) (by decide) z
  have hv0 := hv hk0
  refine aw_aload_n K d_La_law_277 rfl rfl ?_
  refine aw_iconst K d_La_law_278 rfl (v := 0) (by decide) ?_
  refine aw_lald K d_La_law_279 rfl (out_at hl1 (by rw [List.length_map]; exact (rm_vs hx2).2.2.2)) vp_in01 ?_
  refine aw_iload K d_La_law_280 rfl rfl ?_
  refine aw_i2l K d_La_law_282 rfl ?_
  refine aw_lcmp K d_La_law_283 rfl ?_
  exact aw_if_eq K d_La_law_284 (t := 289) (by decide) rfl (fun _ => hend) (fun z => absurd (show lg_cmp (f' 0) _ = 0 by rw [hv0]; exact lg_cmp_self _) z)
set_option maxRecDepth 20000 in
theorem op_sends {X : am_X} (K : am_ok X code R_La 7 10) (hE : am_ex X) {b0 L : Nat} {xs : Nat → Int32} (hsc : am_sc X b0 L xs) {R : sp_R} {room e i bc bs : Nat} {E : sp_E} {w1 w2 : List am_C} {th : Int32} {f : Nat → Int64} (hL : L ≤ 2050) (hi : i + 3 < L) (hw1 : rx R room e E w1) (hw2 : rm R room E th w2) (hz : ez E) (hc1 : 1 ≤ bc) (hc2 : 6 ≤ bs)
    (kk : ∀ (R' : sp_R) (E' : sp_E) (w1' w2' : List am_C) (th' : Int32) (f' : Nat → Int64), rx R' room e E' w1' → rm R' room E' th' w2' → ez E' → AW X 814 (lw_lv i) [] (lw_w w1' w2' f') (bc - 1) (bs - 6)) : AW X 292 (lw_lv i) [] (lw_w w1 w2 f) bc bs := by
  refine aw_aload_n K d_La_law_292 rfl rfl ?_
  refine aw_aload_n K d_La_law_293 rfl rfl ?_
  refine aw_iload K d_La_law_294 rfl rfl ?_
  refine aw_iconst K d_La_law_296 rfl (v := 1) (by decide) ?_
  refine aw_iadd K d_La_law_297 rfl ?_
  refine aw_sld K hsc d_La_law_298 rfl (lw_in1 (by omega) (by omega)) ?_
  refine aw_aload_n K d_La_law_299 rfl rfl ?_
  refine aw_iload K d_La_law_300 rfl rfl ?_
  refine aw_iconst K d_La_law_302 rfl (v := 2) (by decide) ?_
  refine aw_iadd K d_La_law_303 rfl ?_
  refine aw_sld K hsc d_La_law_304 rfl (lw_in2 (by omega) (by omega)) ?_
  refine aw_aload_n K d_La_law_305 rfl rfl ?_
  refine aw_iload K d_La_law_306 rfl rfl ?_
  refine aw_iconst K d_La_law_308 rfl (v := 3) (by decide) ?_
  refine aw_iadd K d_La_law_309 rfl ?_
  refine aw_sld K hsc d_La_law_310 rfl (lw_in3 (by omega) (by omega)) ?_
  refine aw_aload_n K d_La_law_311 rfl rfl ?_
  refine aw_callSH K hE c_La_sends cH_La_76 (by decide) d_La_law_312 rfl (av := [aR 0, aI (xs (nI i + 1).toNatClampNeg), aI (xs (nI i + 2).toNatClampNeg), aI (xs (nI i + 3).toNatClampNeg), aR 45]) rfl (Nat.le_of_ble_eq_true rfl) hc1 hc2 (F := fun rv w9 => ∃ (w1' : List am_C) (f' : Nat → Int64), rv = some (aI (nI (o_sends R E (xs (nI i + 1).toNatClampNeg) (xs (nI i + 2).toNatClampNeg) (xs (nI i + 3).toNatClampNeg)).1.1)) ∧ w9 = lw_w w1' w2 f' ∧ rx (o_sends R E (xs (nI i + 1).toNatClampNeg) (xs (nI i + 2).toNatClampNeg) (xs (nI i + 3).toNatClampNeg)).2.1 room e (o_sends R E (xs (nI i + 1).toNatClampNeg) (xs (nI i + 2).toNatClampNeg) (xs (nI i + 3).toNatClampNeg)).2.2 w1' ∧ ((o_sends R E (xs (nI i + 1).toNatClampNeg) (xs (nI i + 2).toNatClampNeg) (xs (nI i + 3).toNatClampNeg)).1.1 = 0 → f' 0 = ((o_sends R E (xs (nI i + 1).toNatClampNeg) (xs (nI i + 2).toNatClampNeg) (xs (nI i + 3).toNatClampNeg)).1.2).toInt64)) ⟨R, room, e, E, (xs (nI i + 1).toNatClampNeg), (xs (nI i + 2).toNatClampNeg), (xs (nI i + 3).toNatClampNeg), w1, w2.map (sh_c 26), f, rfl, rfl, by rw [List.length_map]; exact (rm_vs hw2).2.2.2, hw1, fun w1' f' h1 h2 => ⟨w1', f', rfl, rfl, h1, h2⟩⟩ ?_
  intro rv w9 hF
  obtain ⟨w1', f', rfl, rfl, hx1, hv⟩ := hF
  have hl1 := rx_len hx1
  refine aw_istore K d_La_law_315 rfl (by decide) (lv' := [some (aR 1000), some (aR 0), some (aR 26), some (aR 45), some (aI (nI i)), some (aI (nI (o_sends R E (xs (nI i + 1).toNatClampNeg) (xs (nI i + 2).toNatClampNeg) (xs (nI i + 3).toNatClampNeg)).1.1)), none]) rfl ?_
  refine aw_aload_n K d_La_law_317 rfl rfl ?_
  refine aw_aload_n K d_La_law_318 rfl rfl ?_
  refine aw_iload K d_La_law_319 rfl rfl ?_
  refine aw_iconst K d_La_law_321 rfl (v := 1) (by decide) ?_
  refine aw_iadd K d_La_law_322 rfl ?_
  refine aw_sld K hsc d_La_law_323 rfl (lw_in1 (by omega) (by omega)) ?_
  refine aw_aload_n K d_La_law_324 rfl rfl ?_
  refine aw_iload K d_La_law_325 rfl rfl ?_
  refine aw_iconst K d_La_law_327 rfl (v := 2) (by decide) ?_
  refine aw_iadd K d_La_law_328 rfl ?_
  refine aw_sld K hsc d_La_law_329 rfl (lw_in2 (by omega) (by omega)) ?_
  refine aw_aload_n K d_La_law_330 rfl rfl ?_
  refine aw_iload K d_La_law_331 rfl rfl ?_
  refine aw_iconst K d_La_law_333 rfl (v := 3) (by decide) ?_
  refine aw_iadd K d_La_law_334 rfl ?_
  refine aw_sld K hsc d_La_law_335 rfl (lw_in3 (by omega) (by omega)) ?_
  refine aw_callM K c_RM_sends cb_La_78 cil_RM_sends csl_RM_sends (by decide) hl1 rfl (rm_0 hw2) d_La_law_336 rfl (av := [aI (xs (nI i + 1).toNatClampNeg), aI (xs (nI i + 2).toNatClampNeg), aI (xs (nI i + 3).toNatClampNeg)]) rfl rfl (Nat.le_of_ble_eq_true rfl) (F := fun rv w9 => rv = some (aI (o_sends R E (xs (nI i + 1).toNatClampNeg) (xs (nI i + 2).toNatClampNeg) (xs (nI i + 3).toNatClampNeg)).1.2) ∧ rm (o_sends R E (xs (nI i + 1).toNatClampNeg) (xs (nI i + 2).toNatClampNeg) (xs (nI i + 3).toNatClampNeg)).2.1 room (o_sends R E (xs (nI i + 1).toNatClampNeg) (xs (nI i + 2).toNatClampNeg) (xs (nI i + 3).toNatClampNeg)).2.2 (nI (o_sends R E (xs (nI i + 1).toNatClampNeg) (xs (nI i + 2).toNatClampNeg) (xs (nI i + 3).toNatClampNeg)).1.1) w9) ⟨R, room, E, th, (xs (nI i + 1).toNatClampNeg), (xs (nI i + 2).toNatClampNeg), (xs (nI i + 3).toNatClampNeg), rfl, (rm_vs hw2).2.2.2, hw2, fun w9 h9 => ⟨rfl, h9⟩⟩ ?_
  intro rv w2' hF
  obtain ⟨rfl, hx2⟩ := hF
  refine ⟨(rm_vs hx2).2.2.2.trans (rm_vs hw2).2.2.2.symm, rfl, ?_⟩
  refine aw_istore K d_La_law_339 rfl (by decide) (lv' := [some (aR 1000), some (aR 0), some (aR 26), some (aR 45), some (aI (nI i)), some (aI (nI (o_sends R E (xs (nI i + 1).toNatClampNeg) (xs (nI i + 2).toNatClampNeg) (xs (nI i + 3).toNatClampNeg)).1.1)), some (aI ((o_sends R E (xs (nI i + 1).toNatClampNeg) (xs (nI i + 2).toNatClampNeg) (xs (nI i + 3).toNatClampNeg)).1.2))]) rfl ?_
  refine aw_aload_n K d_La_law_341 rfl rfl ?_
  refine aw_callM K c_RM_thrown cb_La_66 cil_RM_thrown csl_RM_thrown (by decide) hl1 rfl (rm_0 hx2) d_La_law_342 rfl (av := []) rfl rfl (Nat.le_of_ble_eq_true rfl) (F := fun rv w9 => rv = some (aI (nI (o_sends R E (xs (nI i + 1).toNatClampNeg) (xs (nI i + 2).toNatClampNeg) (xs (nI i + 3).toNatClampNeg)).1.1)) ∧ w9 = w2') ⟨_, room, _, _, rfl, (rm_vs hx2).2.2.2, hx2, rfl, rfl⟩ ?_
  intro rv w9 hF
  obtain ⟨rfl, e9⟩ := hF
  rw [e9]
  refine ⟨rfl, rfl, ?_⟩
  refine aw_iload K d_La_law_345 rfl rfl ?_
  refine aw_icmp_eq K d_La_law_347 (t := 352) (by decide) rfl (fun _ => ?_) (fun z => absurd rfl z)
  refine aw_iload K d_La_law_352 rfl rfl ?_
  have hend : AW X 369 [some (aR 1000), some (aR 0), some (aR 26), some (aR 45), some (aI (nI i)), some (aI (nI (o_sends R E (xs (nI i + 1).toNatClampNeg) (xs (nI i + 2).toNatClampNeg) (xs (nI i + 3).toNatClampNeg)).1.1)), some (aI ((o_sends R E (xs (nI i + 1).toNatClampNeg) (xs (nI i + 2).toNatClampNeg) (xs (nI i + 3).toNatClampNeg)).1.2))] [] (lw_w w1' w2' f') (bc - 1) (bs - 6) := by
    refine aw_goto K d_La_law_369 (n := 814) (by decide) ?_
    refine aw_less [5, 6] rfl ?_
    exact kk _ _ w1' w2' _ f' hx1 hx2 (lw_ez_sends hz)
  refine aw_if_ne K d_La_law_354 (t := 369) (by decide) rfl (fun _ => hend) (fun z => ?_)
  have hk0 : (o_sends R E (xs (nI i + 1).toNatClampNeg) (xs (nI i + 2).toNatClampNeg) (xs (nI i + 3).toNatClampNeg)).1.1 = 0 := rn_inj (Nat.lt_of_le_of_lt lw_k_sends (by decide)) (by decide) z
  have hv0 := hv hk0
  refine aw_aload_n K d_La_law_357 rfl rfl ?_
  refine aw_iconst K d_La_law_358 rfl (v := 0) (by decide) ?_
  refine aw_lald K d_La_law_359 rfl (out_at hl1 (by rw [List.length_map]; exact (rm_vs hx2).2.2.2)) vp_in01 ?_
  refine aw_iload K d_La_law_360 rfl rfl ?_
  refine aw_i2l K d_La_law_362 rfl ?_
  refine aw_lcmp K d_La_law_363 rfl ?_
  exact aw_if_eq K d_La_law_364 (t := 369) (by decide) rfl (fun _ => hend) (fun z => absurd (show lg_cmp (f' 0) _ = 0 by rw [hv0]; exact lg_cmp_self _) z)
set_option maxRecDepth 20000 in
theorem op_bad {X : am_X} (K : am_ok X code R_La 7 10) (hE : am_ex X) {b0 L : Nat} {xs : Nat → Int32} (hsc : am_sc X b0 L xs) {R : sp_R} {room e i bc bs : Nat} {E : sp_E} {w1 w2 : List am_C} {th : Int32} {f : Nat → Int64} (hL : L ≤ 2050) (hi : i + 3 < L) (hw1 : rx R room e E w1) (hw2 : rm R room E th w2) (hz : ez E) (hc1 : 1 ≤ bc) (hc2 : 6 ≤ bs)
    (kk : ∀ (R' : sp_R) (E' : sp_E) (w1' w2' : List am_C) (th' : Int32) (f' : Nat → Int64), rx R' room e E' w1' → rm R' room E' th' w2' → ez E' → AW X 814 (lw_lv i) [] (lw_w w1' w2' f') (bc - 1) (bs - 6)) : AW X 372 (lw_lv i) [] (lw_w w1 w2 f) bc bs := by
  refine aw_aload_n K d_La_law_372 rfl rfl ?_
  refine aw_aload_n K d_La_law_373 rfl rfl ?_
  refine aw_iload K d_La_law_374 rfl rfl ?_
  refine aw_iconst K d_La_law_376 rfl (v := 1) (by decide) ?_
  refine aw_iadd K d_La_law_377 rfl ?_
  refine aw_sld K hsc d_La_law_378 rfl (lw_in1 (by omega) (by omega)) ?_
  refine aw_aload_n K d_La_law_379 rfl rfl ?_
  refine aw_iload K d_La_law_380 rfl rfl ?_
  refine aw_iconst K d_La_law_382 rfl (v := 2) (by decide) ?_
  refine aw_iadd K d_La_law_383 rfl ?_
  refine aw_sld K hsc d_La_law_384 rfl (lw_in2 (by omega) (by omega)) ?_
  refine aw_aload_n K d_La_law_385 rfl rfl ?_
  refine aw_callSH K hE c_La_bad cH_La_79 (by decide) d_La_law_386 rfl (av := [aR 0, aI (xs (nI i + 1).toNatClampNeg), aI (xs (nI i + 2).toNatClampNeg), aR 45]) rfl (Nat.le_of_ble_eq_true rfl) hc1 hc2 (F := fun rv w9 => ∃ (w1' : List am_C) (f' : Nat → Int64), rv = some (aI (nI (o_bad R E (xs (nI i + 1).toNatClampNeg) (xs (nI i + 2).toNatClampNeg)).1.1)) ∧ w9 = lw_w w1' w2 f' ∧ rx (o_bad R E (xs (nI i + 1).toNatClampNeg) (xs (nI i + 2).toNatClampNeg)).2.1 room e (o_bad R E (xs (nI i + 1).toNatClampNeg) (xs (nI i + 2).toNatClampNeg)).2.2 w1' ∧ ((o_bad R E (xs (nI i + 1).toNatClampNeg) (xs (nI i + 2).toNatClampNeg)).1.1 = 0 → f' 0 = ((o_bad R E (xs (nI i + 1).toNatClampNeg) (xs (nI i + 2).toNatClampNeg)).1.2).toInt64)) ⟨R, room, e, E, (xs (nI i + 1).toNatClampNeg), (xs (nI i + 2).toNatClampNeg), w1, w2.map (sh_c 26), f, rfl, rfl, by rw [List.length_map]; exact (rm_vs hw2).2.2.2, hw1, fun w1' f' h1 h2 => ⟨w1', f', rfl, rfl, h1, h2⟩⟩ ?_
  intro rv w9 hF
  obtain ⟨w1', f', rfl, rfl, hx1, hv⟩ := hF
  have hl1 := rx_len hx1
  refine aw_istore K d_La_law_389 rfl (by decide) (lv' := [some (aR 1000), some (aR 0), some (aR 26), some (aR 45), some (aI (nI i)), some (aI (nI (o_bad R E (xs (nI i + 1).toNatClampNeg) (xs (nI i + 2).toNatClampNeg)).1.1)), none]) rfl ?_
  refine aw_aload_n K d_La_law_391 rfl rfl ?_
  refine aw_aload_n K d_La_law_392 rfl rfl ?_
  refine aw_iload K d_La_law_393 rfl rfl ?_
  refine aw_iconst K d_La_law_395 rfl (v := 1) (by decide) ?_
  refine aw_iadd K d_La_law_396 rfl ?_
  refine aw_sld K hsc d_La_law_397 rfl (lw_in1 (by omega) (by omega)) ?_
  refine aw_aload_n K d_La_law_398 rfl rfl ?_
  refine aw_iload K d_La_law_399 rfl rfl ?_
  refine aw_iconst K d_La_law_401 rfl (v := 2) (by decide) ?_
  refine aw_iadd K d_La_law_402 rfl ?_
  refine aw_sld K hsc d_La_law_403 rfl (lw_in2 (by omega) (by omega)) ?_
  refine aw_callM K c_RM_bad cb_La_82 cil_RM_bad csl_RM_bad (by decide) hl1 rfl (rm_0 hw2) d_La_law_404 rfl (av := [aI (xs (nI i + 1).toNatClampNeg), aI (xs (nI i + 2).toNatClampNeg)]) rfl rfl (Nat.le_of_ble_eq_true rfl) (F := fun rv w9 => rv = some (aI (o_bad R E (xs (nI i + 1).toNatClampNeg) (xs (nI i + 2).toNatClampNeg)).1.2) ∧ rm (o_bad R E (xs (nI i + 1).toNatClampNeg) (xs (nI i + 2).toNatClampNeg)).2.1 room (o_bad R E (xs (nI i + 1).toNatClampNeg) (xs (nI i + 2).toNatClampNeg)).2.2 (nI (o_bad R E (xs (nI i + 1).toNatClampNeg) (xs (nI i + 2).toNatClampNeg)).1.1) w9) ⟨R, room, E, th, (xs (nI i + 1).toNatClampNeg), (xs (nI i + 2).toNatClampNeg), rfl, (rm_vs hw2).2.2.2, hw2, fun w9 h9 => ⟨rfl, h9⟩⟩ ?_
  intro rv w2' hF
  obtain ⟨rfl, hx2⟩ := hF
  refine ⟨(rm_vs hx2).2.2.2.trans (rm_vs hw2).2.2.2.symm, rfl, ?_⟩
  refine aw_istore K d_La_law_407 rfl (by decide) (lv' := [some (aR 1000), some (aR 0), some (aR 26), some (aR 45), some (aI (nI i)), some (aI (nI (o_bad R E (xs (nI i + 1).toNatClampNeg) (xs (nI i + 2).toNatClampNeg)).1.1)), some (aI ((o_bad R E (xs (nI i + 1).toNatClampNeg) (xs (nI i + 2).toNatClampNeg)).1.2))]) rfl ?_
  refine aw_aload_n K d_La_law_409 rfl rfl ?_
  refine aw_callM K c_RM_thrown cb_La_66 cil_RM_thrown csl_RM_thrown (by decide) hl1 rfl (rm_0 hx2) d_La_law_410 rfl (av := []) rfl rfl (Nat.le_of_ble_eq_true rfl) (F := fun rv w9 => rv = some (aI (nI (o_bad R E (xs (nI i + 1).toNatClampNeg) (xs (nI i + 2).toNatClampNeg)).1.1)) ∧ w9 = w2') ⟨_, room, _, _, rfl, (rm_vs hx2).2.2.2, hx2, rfl, rfl⟩ ?_
  intro rv w9 hF
  obtain ⟨rfl, e9⟩ := hF
  rw [e9]
  refine ⟨rfl, rfl, ?_⟩
  refine aw_iload K d_La_law_413 rfl rfl ?_
  refine aw_icmp_eq K d_La_law_415 (t := 420) (by decide) rfl (fun _ => ?_) (fun z => absurd rfl z)
  refine aw_iload K d_La_law_420 rfl rfl ?_
  have hend : AW X 444 [some (aR 1000), some (aR 0), some (aR 26), some (aR 45), some (aI (nI i)), some (aI (nI (o_bad R E (xs (nI i + 1).toNatClampNeg) (xs (nI i + 2).toNatClampNeg)).1.1)), some (aI ((o_bad R E (xs (nI i + 1).toNatClampNeg) (xs (nI i + 2).toNatClampNeg)).1.2))] [] (lw_w w1' w2' f') (bc - 1) (bs - 6) := by
    refine aw_goto K d_La_law_444 (n := 814) (by decide) ?_
    refine aw_less [5, 6] rfl ?_
    exact kk _ _ w1' w2' _ f' hx1 hx2 (lw_ez_bad hz)
  refine aw_if_ne K d_La_law_422 (t := 444) (by decide) rfl (fun _ => hend) (fun z => ?_)
  have hk0 : (o_bad R E (xs (nI i + 1).toNatClampNeg) (xs (nI i + 2).toNatClampNeg)).1.1 = 0 := rn_inj (Nat.lt_of_le_of_lt lw_k_bad (by decide)) (by decide) z
  have hv0 := hv hk0
  refine aw_aload_n K d_La_law_425 rfl rfl ?_
  refine aw_iconst K d_La_law_426 rfl (v := 0) (by decide) ?_
  refine aw_lald K d_La_law_427 rfl (out_at hl1 (by rw [List.length_map]; exact (rm_vs hx2).2.2.2)) vp_in01 ?_
  refine aw_iload K d_La_law_428 rfl rfl ?_
  rcases lw_01 hk0 with hb | hb
  · rw [hb] at hv0 hend ⊢
    refine aw_if_eq K d_La_law_430 (t := 437) (by decide) rfl (fun _ => ?_) (fun z => absurd rfl z)
    refine aw_lconst K d_La_law_437 rfl (v := 0) (by decide) ?_
    refine aw_lcmp K d_La_law_438 rfl ?_
    exact aw_if_eq K d_La_law_439 (t := 444) (by decide) rfl (fun _ => hend) (fun z => absurd (show lg_cmp (f' 0) _ = 0 by rw [hv0]; exact lg_cmp_self _) z)
  · rw [hb] at hv0 hend ⊢
    refine aw_if_eq K d_La_law_430 (t := 437) (by decide) rfl (fun z => absurd z (by decide)) (fun _ => ?_)
    refine aw_lconst K d_La_law_433 rfl (v := 1) (by decide) ?_
    refine aw_goto K d_La_law_434 (n := 438) (by decide) ?_
    refine aw_lcmp K d_La_law_438 rfl ?_
    exact aw_if_eq K d_La_law_439 (t := 444) (by decide) rfl (fun _ => hend) (fun z => absurd (show lg_cmp (f' 0) _ = 0 by rw [hv0]; exact lg_cmp_self _) z)
set_option maxRecDepth 20000 in
theorem op_go {X : am_X} (K : am_ok X code R_La 7 10) (hE : am_ex X) {b0 L : Nat} {xs : Nat → Int32} (hsc : am_sc X b0 L xs) {R : sp_R} {room e i bc bs : Nat} {E : sp_E} {w1 w2 : List am_C} {th : Int32} {f : Nat → Int64} (hL : L ≤ 2050) (hi : i + 3 < L) (hw1 : rx R room e E w1) (hw2 : rm R room E th w2) (hz : ez E) (hc1 : 1 ≤ bc) (hc2 : 6 ≤ bs)
    (kk : ∀ (R' : sp_R) (E' : sp_E) (w1' w2' : List am_C) (th' : Int32) (f' : Nat → Int64), rx R' room e E' w1' → rm R' room E' th' w2' → ez E' → AW X 814 (lw_lv i) [] (lw_w w1' w2' f') (bc - 1) (bs - 6)) : AW X 460 (lw_lv i) [] (lw_w w1 w2 f) bc bs := by
  refine aw_aload_n K d_La_law_460 rfl rfl ?_
  refine aw_aload_n K d_La_law_461 rfl rfl ?_
  refine aw_iload K d_La_law_462 rfl rfl ?_
  refine aw_iconst K d_La_law_464 rfl (v := 1) (by decide) ?_
  refine aw_iadd K d_La_law_465 rfl ?_
  refine aw_sld K hsc d_La_law_466 rfl (lw_in1 (by omega) (by omega)) ?_
  refine aw_aload_n K d_La_law_467 rfl rfl ?_
  refine aw_callSH K hE c_La_go cH_La_87 (by decide) d_La_law_468 rfl (av := [aR 0, aI (xs (nI i + 1).toNatClampNeg), aR 45]) rfl (Nat.le_of_ble_eq_true rfl) hc1 hc2 (F := fun rv w9 => ∃ (w1' : List am_C) (f' : Nat → Int64), rv = some (aI (nI (o_go R room E (xs (nI i + 1).toNatClampNeg)).1.1)) ∧ w9 = lw_w w1' w2 f' ∧ rx (o_go R room E (xs (nI i + 1).toNatClampNeg)).2.1 room e (o_go R room E (xs (nI i + 1).toNatClampNeg)).2.2 w1' ∧ ((o_go R room E (xs (nI i + 1).toNatClampNeg)).1.1 = 0 → f' 0 = ((o_go R room E (xs (nI i + 1).toNatClampNeg)).1.2).toInt64)) ⟨R, room, e, E, (xs (nI i + 1).toNatClampNeg), w1, w2.map (sh_c 26), f, rfl, rfl, by rw [List.length_map]; exact (rm_vs hw2).2.2.2, hw1, fun w1' f' h1 h2 => ⟨w1', f', rfl, rfl, h1, h2⟩⟩ ?_
  intro rv w9 hF
  obtain ⟨w1', f', rfl, rfl, hx1, hv⟩ := hF
  have hl1 := rx_len hx1
  refine aw_istore K d_La_law_471 rfl (by decide) (lv' := [some (aR 1000), some (aR 0), some (aR 26), some (aR 45), some (aI (nI i)), some (aI (nI (o_go R room E (xs (nI i + 1).toNatClampNeg)).1.1)), none]) rfl ?_
  refine aw_aload_n K d_La_law_473 rfl rfl ?_
  refine aw_aload_n K d_La_law_474 rfl rfl ?_
  refine aw_iload K d_La_law_475 rfl rfl ?_
  refine aw_iconst K d_La_law_477 rfl (v := 1) (by decide) ?_
  refine aw_iadd K d_La_law_478 rfl ?_
  refine aw_sld K hsc d_La_law_479 rfl (lw_in1 (by omega) (by omega)) ?_
  refine aw_callM K c_RM_go cb_La_90 cil_RM_go csl_RM_go (by decide) hl1 rfl (rm_0 hw2) d_La_law_480 rfl (av := [aI (xs (nI i + 1).toNatClampNeg)]) rfl rfl (Nat.le_of_ble_eq_true rfl) (F := fun rv w9 => rv = some (aI (o_go R room E (xs (nI i + 1).toNatClampNeg)).1.2) ∧ rm (o_go R room E (xs (nI i + 1).toNatClampNeg)).2.1 room (o_go R room E (xs (nI i + 1).toNatClampNeg)).2.2 (nI (o_go R room E (xs (nI i + 1).toNatClampNeg)).1.1) w9) ⟨R, room, E, th, (xs (nI i + 1).toNatClampNeg), rfl, (rm_vs hw2).2.2.2, hw2, hz, fun w9 h9 => ⟨rfl, h9⟩⟩ ?_
  intro rv w2' hF
  obtain ⟨rfl, hx2⟩ := hF
  refine ⟨(rm_vs hx2).2.2.2.trans (rm_vs hw2).2.2.2.symm, rfl, ?_⟩
  refine aw_istore K d_La_law_483 rfl (by decide) (lv' := [some (aR 1000), some (aR 0), some (aR 26), some (aR 45), some (aI (nI i)), some (aI (nI (o_go R room E (xs (nI i + 1).toNatClampNeg)).1.1)), some (aI ((o_go R room E (xs (nI i + 1).toNatClampNeg)).1.2))]) rfl ?_
  refine aw_aload_n K d_La_law_485 rfl rfl ?_
  refine aw_callM K c_RM_thrown cb_La_66 cil_RM_thrown csl_RM_thrown (by decide) hl1 rfl (rm_0 hx2) d_La_law_486 rfl (av := []) rfl rfl (Nat.le_of_ble_eq_true rfl) (F := fun rv w9 => rv = some (aI (nI (o_go R room E (xs (nI i + 1).toNatClampNeg)).1.1)) ∧ w9 = w2') ⟨_, room, _, _, rfl, (rm_vs hx2).2.2.2, hx2, rfl, rfl⟩ ?_
  intro rv w9 hF
  obtain ⟨rfl, e9⟩ := hF
  rw [e9]
  refine ⟨rfl, rfl, ?_⟩
  refine aw_iload K d_La_law_489 rfl rfl ?_
  refine aw_icmp_eq K d_La_law_491 (t := 496) (by decide) rfl (fun _ => ?_) (fun z => absurd rfl z)
  refine aw_iload K d_La_law_496 rfl rfl ?_
  have hend : AW X 513 [some (aR 1000), some (aR 0), some (aR 26), some (aR 45), some (aI (nI i)), some (aI (nI (o_go R room E (xs (nI i + 1).toNatClampNeg)).1.1)), some (aI ((o_go R room E (xs (nI i + 1).toNatClampNeg)).1.2))] [] (lw_w w1' w2' f') (bc - 1) (bs - 6) := by
    refine aw_goto K d_La_law_513 (n := 814) (by decide) ?_
    refine aw_less [5, 6] rfl ?_
    exact kk _ _ w1' w2' _ f' hx1 hx2 (lw_ez_go hz (rm_vs hw2).1)
  refine aw_if_ne K d_La_law_498 (t := 513) (by decide) rfl (fun _ => hend) (fun z => ?_)
  have hk0 : (o_go R room E (xs (nI i + 1).toNatClampNeg)).1.1 = 0 := rn_inj (Nat.lt_of_le_of_lt lw_k_go (by decide)) (by decide) z
  have hv0 := hv hk0
  refine aw_aload_n K d_La_law_501 rfl rfl ?_
  refine aw_iconst K d_La_law_502 rfl (v := 0) (by decide) ?_
  refine aw_lald K d_La_law_503 rfl (out_at hl1 (by rw [List.length_map]; exact (rm_vs hx2).2.2.2)) vp_in01 ?_
  refine aw_iload K d_La_law_504 rfl rfl ?_
  refine aw_i2l K d_La_law_506 rfl ?_
  refine aw_lcmp K d_La_law_507 rfl ?_
  exact aw_if_eq K d_La_law_508 (t := 513) (by decide) rfl (fun _ => hend) (fun z => absurd (show lg_cmp (f' 0) _ = 0 by rw [hv0]; exact lg_cmp_self _) z)
set_option maxRecDepth 20000 in
theorem op_node {X : am_X} (K : am_ok X code R_La 7 10) (hE : am_ex X) {b0 L : Nat} {xs : Nat → Int32} (hsc : am_sc X b0 L xs) {R : sp_R} {room e i bc bs : Nat} {E : sp_E} {w1 w2 : List am_C} {th : Int32} {f : Nat → Int64} (hL : L ≤ 2050) (hi : i + 3 < L) (hw1 : rx R room e E w1) (hw2 : rm R room E th w2) (hz : ez E) (hc1 : 1 ≤ bc) (hc2 : 6 ≤ bs)
    (kk : ∀ (R' : sp_R) (E' : sp_E) (w1' w2' : List am_C) (th' : Int32) (f' : Nat → Int64), rx R' room e E' w1' → rm R' room E' th' w2' → ez E' → AW X 814 (lw_lv i) [] (lw_w w1' w2' f') (bc - 1) (bs - 6)) : AW X 516 (lw_lv i) [] (lw_w w1 w2 f) bc bs := by
  refine aw_aload_n K d_La_law_516 rfl rfl ?_
  refine aw_aload_n K d_La_law_517 rfl rfl ?_
  refine aw_iload K d_La_law_518 rfl rfl ?_
  refine aw_iconst K d_La_law_520 rfl (v := 1) (by decide) ?_
  refine aw_iadd K d_La_law_521 rfl ?_
  refine aw_sld K hsc d_La_law_522 rfl (lw_in1 (by omega) (by omega)) ?_
  refine aw_aload_n K d_La_law_523 rfl rfl ?_
  refine aw_iload K d_La_law_524 rfl rfl ?_
  refine aw_iconst K d_La_law_526 rfl (v := 2) (by decide) ?_
  refine aw_iadd K d_La_law_527 rfl ?_
  refine aw_sld K hsc d_La_law_528 rfl (lw_in2 (by omega) (by omega)) ?_
  refine aw_aload_n K d_La_law_529 rfl rfl ?_
  refine aw_callSH K hE c_La_node cH_La_91 (by decide) d_La_law_530 rfl (av := [aR 0, aI (xs (nI i + 1).toNatClampNeg), aI (xs (nI i + 2).toNatClampNeg), aR 45]) rfl (Nat.le_of_ble_eq_true rfl) hc1 hc2 (F := fun rv w9 => ∃ (w1' : List am_C) (f' : Nat → Int64), rv = some (aI (nI (o_node R E (xs (nI i + 1).toNatClampNeg) (xs (nI i + 2).toNatClampNeg)).1)) ∧ w9 = lw_w w1' w2 f' ∧ rx R room e E w1' ∧ ((o_node R E (xs (nI i + 1).toNatClampNeg) (xs (nI i + 2).toNatClampNeg)).1 = 0 → f' 0 = ((o_node R E (xs (nI i + 1).toNatClampNeg) (xs (nI i + 2).toNatClampNeg)).2).toInt64)) ⟨R, room, e, E, (xs (nI i + 1).toNatClampNeg), (xs (nI i + 2).toNatClampNeg), w1, w2.map (sh_c 26), f, rfl, rfl, by rw [List.length_map]; exact (rm_vs hw2).2.2.2, hw1, fun w1' f' h1 h2 => ⟨w1', f', rfl, rfl, h1, h2⟩⟩ ?_
  intro rv w9 hF
  obtain ⟨w1', f', rfl, rfl, hx1, hv⟩ := hF
  have hl1 := rx_len hx1
  refine aw_istore K d_La_law_533 rfl (by decide) (lv' := [some (aR 1000), some (aR 0), some (aR 26), some (aR 45), some (aI (nI i)), some (aI (nI (o_node R E (xs (nI i + 1).toNatClampNeg) (xs (nI i + 2).toNatClampNeg)).1)), none]) rfl ?_
  refine aw_aload_n K d_La_law_535 rfl rfl ?_
  refine aw_aload_n K d_La_law_536 rfl rfl ?_
  refine aw_iload K d_La_law_537 rfl rfl ?_
  refine aw_iconst K d_La_law_539 rfl (v := 1) (by decide) ?_
  refine aw_iadd K d_La_law_540 rfl ?_
  refine aw_sld K hsc d_La_law_541 rfl (lw_in1 (by omega) (by omega)) ?_
  refine aw_aload_n K d_La_law_542 rfl rfl ?_
  refine aw_iload K d_La_law_543 rfl rfl ?_
  refine aw_iconst K d_La_law_545 rfl (v := 2) (by decide) ?_
  refine aw_iadd K d_La_law_546 rfl ?_
  refine aw_sld K hsc d_La_law_547 rfl (lw_in2 (by omega) (by omega)) ?_
  refine aw_callM K c_RM_node cb_La_93 cil_RM_node csl_RM_node (by decide) hl1 rfl (rm_0 hw2) d_La_law_548 rfl (av := [aI (xs (nI i + 1).toNatClampNeg), aI (xs (nI i + 2).toNatClampNeg)]) rfl rfl (Nat.le_of_ble_eq_true rfl) (F := fun rv w9 => rv = some (aI (o_node R E (xs (nI i + 1).toNatClampNeg) (xs (nI i + 2).toNatClampNeg)).2) ∧ rm R room E (nI (o_node R E (xs (nI i + 1).toNatClampNeg) (xs (nI i + 2).toNatClampNeg)).1) w9) ⟨R, room, E, th, (xs (nI i + 1).toNatClampNeg), (xs (nI i + 2).toNatClampNeg), rfl, (rm_vs hw2).2.2.2, hw2, fun w9 h9 => ⟨rfl, h9⟩⟩ ?_
  intro rv w2' hF
  obtain ⟨rfl, hx2⟩ := hF
  refine ⟨(rm_vs hx2).2.2.2.trans (rm_vs hw2).2.2.2.symm, rfl, ?_⟩
  refine aw_istore K d_La_law_551 rfl (by decide) (lv' := [some (aR 1000), some (aR 0), some (aR 26), some (aR 45), some (aI (nI i)), some (aI (nI (o_node R E (xs (nI i + 1).toNatClampNeg) (xs (nI i + 2).toNatClampNeg)).1)), some (aI ((o_node R E (xs (nI i + 1).toNatClampNeg) (xs (nI i + 2).toNatClampNeg)).2))]) rfl ?_
  refine aw_aload_n K d_La_law_553 rfl rfl ?_
  refine aw_callM K c_RM_thrown cb_La_66 cil_RM_thrown csl_RM_thrown (by decide) hl1 rfl (rm_0 hx2) d_La_law_554 rfl (av := []) rfl rfl (Nat.le_of_ble_eq_true rfl) (F := fun rv w9 => rv = some (aI (nI (o_node R E (xs (nI i + 1).toNatClampNeg) (xs (nI i + 2).toNatClampNeg)).1)) ∧ w9 = w2') ⟨_, room, _, _, rfl, (rm_vs hx2).2.2.2, hx2, rfl, rfl⟩ ?_
  intro rv w9 hF
  obtain ⟨rfl, e9⟩ := hF
  rw [e9]
  refine ⟨rfl, rfl, ?_⟩
  refine aw_iload K d_La_law_557 rfl rfl ?_
  refine aw_icmp_eq K d_La_law_559 (t := 564) (by decide) rfl (fun _ => ?_) (fun z => absurd rfl z)
  refine aw_iload K d_La_law_564 rfl rfl ?_
  have hend : AW X 581 [some (aR 1000), some (aR 0), some (aR 26), some (aR 45), some (aI (nI i)), some (aI (nI (o_node R E (xs (nI i + 1).toNatClampNeg) (xs (nI i + 2).toNatClampNeg)).1)), some (aI ((o_node R E (xs (nI i + 1).toNatClampNeg) (xs (nI i + 2).toNatClampNeg)).2))] [] (lw_w w1' w2' f') (bc - 1) (bs - 6) := by
    refine aw_goto K d_La_law_581 (n := 814) (by decide) ?_
    refine aw_less [5, 6] rfl ?_
    exact kk _ _ w1' w2' _ f' hx1 hx2 hz
  refine aw_if_ne K d_La_law_566 (t := 581) (by decide) rfl (fun _ => hend) (fun z => ?_)
  have hk0 : (o_node R E (xs (nI i + 1).toNatClampNeg) (xs (nI i + 2).toNatClampNeg)).1 = 0 := rn_inj (Nat.lt_of_le_of_lt lw_k_node (by decide)) (by decide) z
  have hv0 := hv hk0
  refine aw_aload_n K d_La_law_569 rfl rfl ?_
  refine aw_iconst K d_La_law_570 rfl (v := 0) (by decide) ?_
  refine aw_lald K d_La_law_571 rfl (out_at hl1 (by rw [List.length_map]; exact (rm_vs hx2).2.2.2)) vp_in01 ?_
  refine aw_iload K d_La_law_572 rfl rfl ?_
  refine aw_i2l K d_La_law_574 rfl ?_
  refine aw_lcmp K d_La_law_575 rfl ?_
  exact aw_if_eq K d_La_law_576 (t := 581) (by decide) rfl (fun _ => hend) (fun z => absurd (show lg_cmp (f' 0) _ = 0 by rw [hv0]; exact lg_cmp_self _) z)
set_option maxRecDepth 20000 in
theorem op_code {X : am_X} (K : am_ok X code R_La 7 10) (hE : am_ex X) {b0 L : Nat} {xs : Nat → Int32} (hsc : am_sc X b0 L xs) {R : sp_R} {room e i bc bs : Nat} {E : sp_E} {w1 w2 : List am_C} {th : Int32} {f : Nat → Int64} (hL : L ≤ 2050) (hi : i + 3 < L) (hw1 : rx R room e E w1) (hw2 : rm R room E th w2) (hz : ez E) (hc1 : 1 ≤ bc) (hc2 : 6 ≤ bs)
    (kk : ∀ (R' : sp_R) (E' : sp_E) (w1' w2' : List am_C) (th' : Int32) (f' : Nat → Int64), rx R' room e E' w1' → rm R' room E' th' w2' → ez E' → AW X 814 (lw_lv i) [] (lw_w w1' w2' f') (bc - 1) (bs - 6)) : AW X 584 (lw_lv i) [] (lw_w w1 w2 f) bc bs := by
  refine aw_aload_n K d_La_law_584 rfl rfl ?_
  refine aw_aload_n K d_La_law_585 rfl rfl ?_
  refine aw_iload K d_La_law_586 rfl rfl ?_
  refine aw_iconst K d_La_law_588 rfl (v := 1) (by decide) ?_
  refine aw_iadd K d_La_law_589 rfl ?_
  refine aw_sld K hsc d_La_law_590 rfl (lw_in1 (by omega) (by omega)) ?_
  refine aw_aload_n K d_La_law_591 rfl rfl ?_
  refine aw_iload K d_La_law_592 rfl rfl ?_
  refine aw_iconst K d_La_law_594 rfl (v := 2) (by decide) ?_
  refine aw_iadd K d_La_law_595 rfl ?_
  refine aw_sld K hsc d_La_law_596 rfl (lw_in2 (by omega) (by omega)) ?_
  refine aw_aload_n K d_La_law_597 rfl rfl ?_
  refine aw_callSH K hE c_La_code cH_La_94 (by decide) d_La_law_598 rfl (av := [aR 0, aI (xs (nI i + 1).toNatClampNeg), aI (xs (nI i + 2).toNatClampNeg), aR 45]) rfl (Nat.le_of_ble_eq_true rfl) hc1 hc2 (F := fun rv w9 => ∃ (w1' : List am_C) (f' : Nat → Int64), rv = some (aI (nI (o_code E (xs (nI i + 1).toNatClampNeg) (xs (nI i + 2).toNatClampNeg)).1)) ∧ w9 = lw_w w1' w2 f' ∧ rx R room e E w1' ∧ ((o_code E (xs (nI i + 1).toNatClampNeg) (xs (nI i + 2).toNatClampNeg)).1 = 0 → f' 0 = ((o_code E (xs (nI i + 1).toNatClampNeg) (xs (nI i + 2).toNatClampNeg)).2).toInt64)) ⟨R, room, e, E, (xs (nI i + 1).toNatClampNeg), (xs (nI i + 2).toNatClampNeg), w1, w2.map (sh_c 26), f, rfl, rfl, by rw [List.length_map]; exact (rm_vs hw2).2.2.2, hw1, fun w1' f' h1 h2 => ⟨w1', f', rfl, rfl, h1, h2⟩⟩ ?_
  intro rv w9 hF
  obtain ⟨w1', f', rfl, rfl, hx1, hv⟩ := hF
  have hl1 := rx_len hx1
  refine aw_istore K d_La_law_601 rfl (by decide) (lv' := [some (aR 1000), some (aR 0), some (aR 26), some (aR 45), some (aI (nI i)), some (aI (nI (o_code E (xs (nI i + 1).toNatClampNeg) (xs (nI i + 2).toNatClampNeg)).1)), none]) rfl ?_
  refine aw_aload_n K d_La_law_603 rfl rfl ?_
  refine aw_aload_n K d_La_law_604 rfl rfl ?_
  refine aw_iload K d_La_law_605 rfl rfl ?_
  refine aw_iconst K d_La_law_607 rfl (v := 1) (by decide) ?_
  refine aw_iadd K d_La_law_608 rfl ?_
  refine aw_sld K hsc d_La_law_609 rfl (lw_in1 (by omega) (by omega)) ?_
  refine aw_aload_n K d_La_law_610 rfl rfl ?_
  refine aw_iload K d_La_law_611 rfl rfl ?_
  refine aw_iconst K d_La_law_613 rfl (v := 2) (by decide) ?_
  refine aw_iadd K d_La_law_614 rfl ?_
  refine aw_sld K hsc d_La_law_615 rfl (lw_in2 (by omega) (by omega)) ?_
  refine aw_callM K c_RM_code cb_La_96 cil_RM_code csl_RM_code (by decide) hl1 rfl (rm_0 hw2) d_La_law_616 rfl (av := [aI (xs (nI i + 1).toNatClampNeg), aI (xs (nI i + 2).toNatClampNeg)]) rfl rfl (Nat.le_of_ble_eq_true rfl) (F := fun rv w9 => rv = some (aI (o_code E (xs (nI i + 1).toNatClampNeg) (xs (nI i + 2).toNatClampNeg)).2) ∧ rm R room E (nI (o_code E (xs (nI i + 1).toNatClampNeg) (xs (nI i + 2).toNatClampNeg)).1) w9) ⟨R, room, E, th, (xs (nI i + 1).toNatClampNeg), (xs (nI i + 2).toNatClampNeg), rfl, (rm_vs hw2).2.2.2, hw2, fun w9 h9 => ⟨rfl, h9⟩⟩ ?_
  intro rv w2' hF
  obtain ⟨rfl, hx2⟩ := hF
  refine ⟨(rm_vs hx2).2.2.2.trans (rm_vs hw2).2.2.2.symm, rfl, ?_⟩
  refine aw_istore K d_La_law_619 rfl (by decide) (lv' := [some (aR 1000), some (aR 0), some (aR 26), some (aR 45), some (aI (nI i)), some (aI (nI (o_code E (xs (nI i + 1).toNatClampNeg) (xs (nI i + 2).toNatClampNeg)).1)), some (aI ((o_code E (xs (nI i + 1).toNatClampNeg) (xs (nI i + 2).toNatClampNeg)).2))]) rfl ?_
  refine aw_aload_n K d_La_law_621 rfl rfl ?_
  refine aw_callM K c_RM_thrown cb_La_66 cil_RM_thrown csl_RM_thrown (by decide) hl1 rfl (rm_0 hx2) d_La_law_622 rfl (av := []) rfl rfl (Nat.le_of_ble_eq_true rfl) (F := fun rv w9 => rv = some (aI (nI (o_code E (xs (nI i + 1).toNatClampNeg) (xs (nI i + 2).toNatClampNeg)).1)) ∧ w9 = w2') ⟨_, room, _, _, rfl, (rm_vs hx2).2.2.2, hx2, rfl, rfl⟩ ?_
  intro rv w9 hF
  obtain ⟨rfl, e9⟩ := hF
  rw [e9]
  refine ⟨rfl, rfl, ?_⟩
  refine aw_iload K d_La_law_625 rfl rfl ?_
  refine aw_icmp_eq K d_La_law_627 (t := 632) (by decide) rfl (fun _ => ?_) (fun z => absurd rfl z)
  refine aw_iload K d_La_law_632 rfl rfl ?_
  have hend : AW X 649 [some (aR 1000), some (aR 0), some (aR 26), some (aR 45), some (aI (nI i)), some (aI (nI (o_code E (xs (nI i + 1).toNatClampNeg) (xs (nI i + 2).toNatClampNeg)).1)), some (aI ((o_code E (xs (nI i + 1).toNatClampNeg) (xs (nI i + 2).toNatClampNeg)).2))] [] (lw_w w1' w2' f') (bc - 1) (bs - 6) := by
    refine aw_goto K d_La_law_649 (n := 814) (by decide) ?_
    refine aw_less [5, 6] rfl ?_
    exact kk _ _ w1' w2' _ f' hx1 hx2 hz
  refine aw_if_ne K d_La_law_634 (t := 649) (by decide) rfl (fun _ => hend) (fun z => ?_)
  have hk0 : (o_code E (xs (nI i + 1).toNatClampNeg) (xs (nI i + 2).toNatClampNeg)).1 = 0 := rn_inj (Nat.lt_of_le_of_lt lw_k_code (by decide)) (by decide) z
  have hv0 := hv hk0
  refine aw_aload_n K d_La_law_637 rfl rfl ?_
  refine aw_iconst K d_La_law_638 rfl (v := 0) (by decide) ?_
  refine aw_lald K d_La_law_639 rfl (out_at hl1 (by rw [List.length_map]; exact (rm_vs hx2).2.2.2)) vp_in01 ?_
  refine aw_iload K d_La_law_640 rfl rfl ?_
  refine aw_i2l K d_La_law_642 rfl ?_
  refine aw_lcmp K d_La_law_643 rfl ?_
  exact aw_if_eq K d_La_law_644 (t := 649) (by decide) rfl (fun _ => hend) (fun z => absurd (show lg_cmp (f' 0) _ = 0 by rw [hv0]; exact lg_cmp_self _) z)
set_option maxRecDepth 20000 in
theorem op_whole {X : am_X} (K : am_ok X code R_La 7 10) (hE : am_ex X) {b0 L : Nat} {xs : Nat → Int32} (hsc : am_sc X b0 L xs) {R : sp_R} {room e i bc bs : Nat} {E : sp_E} {w1 w2 : List am_C} {th : Int32} {f : Nat → Int64} (hL : L ≤ 2050) (hi : i + 3 < L) (hw1 : rx R room e E w1) (hw2 : rm R room E th w2) (hz : ez E) (hc1 : 1 ≤ bc) (hc2 : 6 ≤ bs)
    (kk : ∀ (R' : sp_R) (E' : sp_E) (w1' w2' : List am_C) (th' : Int32) (f' : Nat → Int64), rx R' room e E' w1' → rm R' room E' th' w2' → ez E' → AW X 814 (lw_lv i) [] (lw_w w1' w2' f') (bc - 1) (bs - 6)) : AW X 652 (lw_lv i) [] (lw_w w1 w2 f) bc bs := by
  refine aw_aload_n K d_La_law_652 rfl rfl ?_
  refine aw_aload_n K d_La_law_653 rfl rfl ?_
  refine aw_iload K d_La_law_654 rfl rfl ?_
  refine aw_iconst K d_La_law_656 rfl (v := 1) (by decide) ?_
  refine aw_iadd K d_La_law_657 rfl ?_
  refine aw_sld K hsc d_La_law_658 rfl (lw_in1 (by omega) (by omega)) ?_
  refine aw_aload_n K d_La_law_659 rfl rfl ?_
  refine aw_iload K d_La_law_660 rfl rfl ?_
  refine aw_iconst K d_La_law_662 rfl (v := 2) (by decide) ?_
  refine aw_iadd K d_La_law_663 rfl ?_
  refine aw_sld K hsc d_La_law_664 rfl (lw_in2 (by omega) (by omega)) ?_
  refine aw_aload_n K d_La_law_665 rfl rfl ?_
  refine aw_callSH K hE c_La_whole cH_La_97 (by decide) d_La_law_666 rfl (av := [aR 0, aI (xs (nI i + 1).toNatClampNeg), aI (xs (nI i + 2).toNatClampNeg), aR 45]) rfl (Nat.le_of_ble_eq_true rfl) hc1 hc2 (F := fun rv w9 => ∃ (w1' : List am_C) (f' : Nat → Int64), rv = some (aI (nI (o_whole E (xs (nI i + 1).toNatClampNeg) (xs (nI i + 2).toNatClampNeg)).1)) ∧ w9 = lw_w w1' w2 f' ∧ rx R room e E w1' ∧ ((o_whole E (xs (nI i + 1).toNatClampNeg) (xs (nI i + 2).toNatClampNeg)).1 = 0 → f' 0 = ((o_whole E (xs (nI i + 1).toNatClampNeg) (xs (nI i + 2).toNatClampNeg)).2).toInt64)) ⟨R, room, e, E, (xs (nI i + 1).toNatClampNeg), (xs (nI i + 2).toNatClampNeg), w1, w2.map (sh_c 26), f, rfl, rfl, by rw [List.length_map]; exact (rm_vs hw2).2.2.2, hw1, fun w1' f' h1 h2 => ⟨w1', f', rfl, rfl, h1, h2⟩⟩ ?_
  intro rv w9 hF
  obtain ⟨w1', f', rfl, rfl, hx1, hv⟩ := hF
  have hl1 := rx_len hx1
  refine aw_istore K d_La_law_669 rfl (by decide) (lv' := [some (aR 1000), some (aR 0), some (aR 26), some (aR 45), some (aI (nI i)), some (aI (nI (o_whole E (xs (nI i + 1).toNatClampNeg) (xs (nI i + 2).toNatClampNeg)).1)), none]) rfl ?_
  refine aw_aload_n K d_La_law_671 rfl rfl ?_
  refine aw_aload_n K d_La_law_672 rfl rfl ?_
  refine aw_iload K d_La_law_673 rfl rfl ?_
  refine aw_iconst K d_La_law_675 rfl (v := 1) (by decide) ?_
  refine aw_iadd K d_La_law_676 rfl ?_
  refine aw_sld K hsc d_La_law_677 rfl (lw_in1 (by omega) (by omega)) ?_
  refine aw_aload_n K d_La_law_678 rfl rfl ?_
  refine aw_iload K d_La_law_679 rfl rfl ?_
  refine aw_iconst K d_La_law_681 rfl (v := 2) (by decide) ?_
  refine aw_iadd K d_La_law_682 rfl ?_
  refine aw_sld K hsc d_La_law_683 rfl (lw_in2 (by omega) (by omega)) ?_
  refine aw_callM K c_RM_whole cb_La_99 cil_RM_whole csl_RM_whole (by decide) hl1 rfl (rm_0 hw2) d_La_law_684 rfl (av := [aI (xs (nI i + 1).toNatClampNeg), aI (xs (nI i + 2).toNatClampNeg)]) rfl rfl (Nat.le_of_ble_eq_true rfl) (F := fun rv w9 => rv = some (aI (o_whole E (xs (nI i + 1).toNatClampNeg) (xs (nI i + 2).toNatClampNeg)).2) ∧ rm R room E (nI (o_whole E (xs (nI i + 1).toNatClampNeg) (xs (nI i + 2).toNatClampNeg)).1) w9) ⟨R, room, E, th, (xs (nI i + 1).toNatClampNeg), (xs (nI i + 2).toNatClampNeg), rfl, (rm_vs hw2).2.2.2, hw2, fun w9 h9 => ⟨rfl, h9⟩⟩ ?_
  intro rv w2' hF
  obtain ⟨rfl, hx2⟩ := hF
  refine ⟨(rm_vs hx2).2.2.2.trans (rm_vs hw2).2.2.2.symm, rfl, ?_⟩
  refine aw_istore K d_La_law_687 rfl (by decide) (lv' := [some (aR 1000), some (aR 0), some (aR 26), some (aR 45), some (aI (nI i)), some (aI (nI (o_whole E (xs (nI i + 1).toNatClampNeg) (xs (nI i + 2).toNatClampNeg)).1)), some (aI ((o_whole E (xs (nI i + 1).toNatClampNeg) (xs (nI i + 2).toNatClampNeg)).2))]) rfl ?_
  refine aw_aload_n K d_La_law_689 rfl rfl ?_
  refine aw_callM K c_RM_thrown cb_La_66 cil_RM_thrown csl_RM_thrown (by decide) hl1 rfl (rm_0 hx2) d_La_law_690 rfl (av := []) rfl rfl (Nat.le_of_ble_eq_true rfl) (F := fun rv w9 => rv = some (aI (nI (o_whole E (xs (nI i + 1).toNatClampNeg) (xs (nI i + 2).toNatClampNeg)).1)) ∧ w9 = w2') ⟨_, room, _, _, rfl, (rm_vs hx2).2.2.2, hx2, rfl, rfl⟩ ?_
  intro rv w9 hF
  obtain ⟨rfl, e9⟩ := hF
  rw [e9]
  refine ⟨rfl, rfl, ?_⟩
  refine aw_iload K d_La_law_693 rfl rfl ?_
  refine aw_icmp_eq K d_La_law_695 (t := 700) (by decide) rfl (fun _ => ?_) (fun z => absurd rfl z)
  refine aw_iload K d_La_law_700 rfl rfl ?_
  have hend : AW X 717 [some (aR 1000), some (aR 0), some (aR 26), some (aR 45), some (aI (nI i)), some (aI (nI (o_whole E (xs (nI i + 1).toNatClampNeg) (xs (nI i + 2).toNatClampNeg)).1)), some (aI ((o_whole E (xs (nI i + 1).toNatClampNeg) (xs (nI i + 2).toNatClampNeg)).2))] [] (lw_w w1' w2' f') (bc - 1) (bs - 6) := by
    refine aw_goto K d_La_law_717 (n := 814) (by decide) ?_
    refine aw_less [5, 6] rfl ?_
    exact kk _ _ w1' w2' _ f' hx1 hx2 hz
  refine aw_if_ne K d_La_law_702 (t := 717) (by decide) rfl (fun _ => hend) (fun z => ?_)
  have hk0 : (o_whole E (xs (nI i + 1).toNatClampNeg) (xs (nI i + 2).toNatClampNeg)).1 = 0 := rn_inj (Nat.lt_of_le_of_lt lw_k_whole (by decide)) (by decide) z
  have hv0 := hv hk0
  refine aw_aload_n K d_La_law_705 rfl rfl ?_
  refine aw_iconst K d_La_law_706 rfl (v := 0) (by decide) ?_
  refine aw_lald K d_La_law_707 rfl (out_at hl1 (by rw [List.length_map]; exact (rm_vs hx2).2.2.2)) vp_in01 ?_
  refine aw_iload K d_La_law_708 rfl rfl ?_
  refine aw_i2l K d_La_law_710 rfl ?_
  refine aw_lcmp K d_La_law_711 rfl ?_
  exact aw_if_eq K d_La_law_712 (t := 717) (by decide) rfl (fun _ => hend) (fun z => absurd (show lg_cmp (f' 0) _ = 0 by rw [hv0]; exact lg_cmp_self _) z)
set_option maxRecDepth 20000 in
theorem op_wayAt {X : am_X} (K : am_ok X code R_La 7 10) (hE : am_ex X) {b0 L : Nat} {xs : Nat → Int32} (hsc : am_sc X b0 L xs) {R : sp_R} {room e i bc bs : Nat} {E : sp_E} {w1 w2 : List am_C} {th : Int32} {f : Nat → Int64} (hL : L ≤ 2050) (hi : i + 3 < L) (hw1 : rx R room e E w1) (hw2 : rm R room E th w2) (hz : ez E) (hc1 : 1 ≤ bc) (hc2 : 6 ≤ bs)
    (kk : ∀ (R' : sp_R) (E' : sp_E) (w1' w2' : List am_C) (th' : Int32) (f' : Nat → Int64), rx R' room e E' w1' → rm R' room E' th' w2' → ez E' → AW X 814 (lw_lv i) [] (lw_w w1' w2' f') (bc - 1) (bs - 6)) : AW X 733 (lw_lv i) [] (lw_w w1 w2 f) bc bs := by
  refine aw_aload_n K d_La_law_733 rfl rfl ?_
  refine aw_aload_n K d_La_law_734 rfl rfl ?_
  refine aw_iload K d_La_law_735 rfl rfl ?_
  refine aw_iconst K d_La_law_737 rfl (v := 1) (by decide) ?_
  refine aw_iadd K d_La_law_738 rfl ?_
  refine aw_sld K hsc d_La_law_739 rfl (lw_in1 (by omega) (by omega)) ?_
  refine aw_aload_n K d_La_law_740 rfl rfl ?_
  refine aw_callSH K hE c_La_wayAt cH_La_104 (by decide) d_La_law_741 rfl (av := [aR 0, aI (xs (nI i + 1).toNatClampNeg), aR 45]) rfl (Nat.le_of_ble_eq_true rfl) hc1 hc2 (F := fun rv w9 => ∃ (w1' : List am_C) (f' : Nat → Int64), rv = some (aI (nI (o_wayAt E (xs (nI i + 1).toNatClampNeg)).1)) ∧ w9 = lw_w w1' w2 f' ∧ rx R room e E w1' ∧ ((o_wayAt E (xs (nI i + 1).toNatClampNeg)).1 = 0 → f' 0 = ((o_wayAt E (xs (nI i + 1).toNatClampNeg)).2).toInt64)) ⟨R, room, e, E, (xs (nI i + 1).toNatClampNeg), w1, w2.map (sh_c 26), f, rfl, rfl, by rw [List.length_map]; exact (rm_vs hw2).2.2.2, hw1, fun w1' f' h1 h2 => ⟨w1', f', rfl, rfl, h1, h2⟩⟩ ?_
  intro rv w9 hF
  obtain ⟨w1', f', rfl, rfl, hx1, hv⟩ := hF
  have hl1 := rx_len hx1
  refine aw_istore K d_La_law_744 rfl (by decide) (lv' := [some (aR 1000), some (aR 0), some (aR 26), some (aR 45), some (aI (nI i)), some (aI (nI (o_wayAt E (xs (nI i + 1).toNatClampNeg)).1)), none]) rfl ?_
  refine aw_aload_n K d_La_law_746 rfl rfl ?_
  refine aw_aload_n K d_La_law_747 rfl rfl ?_
  refine aw_iload K d_La_law_748 rfl rfl ?_
  refine aw_iconst K d_La_law_750 rfl (v := 1) (by decide) ?_
  refine aw_iadd K d_La_law_751 rfl ?_
  refine aw_sld K hsc d_La_law_752 rfl (lw_in1 (by omega) (by omega)) ?_
  refine aw_callM K c_RM_wayAt cb_La_106 cil_RM_wayAt csl_RM_wayAt (by decide) hl1 rfl (rm_0 hw2) d_La_law_753 rfl (av := [aI (xs (nI i + 1).toNatClampNeg)]) rfl rfl (Nat.le_of_ble_eq_true rfl) (F := fun rv w9 => rv = some (aI (o_wayAt E (xs (nI i + 1).toNatClampNeg)).2) ∧ rm R room E (nI (o_wayAt E (xs (nI i + 1).toNatClampNeg)).1) w9) ⟨R, room, E, th, (xs (nI i + 1).toNatClampNeg), rfl, (rm_vs hw2).2.2.2, hw2, fun w9 h9 => ⟨rfl, h9⟩⟩ ?_
  intro rv w2' hF
  obtain ⟨rfl, hx2⟩ := hF
  refine ⟨(rm_vs hx2).2.2.2.trans (rm_vs hw2).2.2.2.symm, rfl, ?_⟩
  refine aw_istore K d_La_law_756 rfl (by decide) (lv' := [some (aR 1000), some (aR 0), some (aR 26), some (aR 45), some (aI (nI i)), some (aI (nI (o_wayAt E (xs (nI i + 1).toNatClampNeg)).1)), some (aI ((o_wayAt E (xs (nI i + 1).toNatClampNeg)).2))]) rfl ?_
  refine aw_aload_n K d_La_law_758 rfl rfl ?_
  refine aw_callM K c_RM_thrown cb_La_66 cil_RM_thrown csl_RM_thrown (by decide) hl1 rfl (rm_0 hx2) d_La_law_759 rfl (av := []) rfl rfl (Nat.le_of_ble_eq_true rfl) (F := fun rv w9 => rv = some (aI (nI (o_wayAt E (xs (nI i + 1).toNatClampNeg)).1)) ∧ w9 = w2') ⟨_, room, _, _, rfl, (rm_vs hx2).2.2.2, hx2, rfl, rfl⟩ ?_
  intro rv w9 hF
  obtain ⟨rfl, e9⟩ := hF
  rw [e9]
  refine ⟨rfl, rfl, ?_⟩
  refine aw_iload K d_La_law_762 rfl rfl ?_
  refine aw_icmp_eq K d_La_law_764 (t := 769) (by decide) rfl (fun _ => ?_) (fun z => absurd rfl z)
  refine aw_iload K d_La_law_769 rfl rfl ?_
  have hend : AW X 786 [some (aR 1000), some (aR 0), some (aR 26), some (aR 45), some (aI (nI i)), some (aI (nI (o_wayAt E (xs (nI i + 1).toNatClampNeg)).1)), some (aI ((o_wayAt E (xs (nI i + 1).toNatClampNeg)).2))] [] (lw_w w1' w2' f') (bc - 1) (bs - 6) := by
    refine aw_goto K d_La_law_786 (n := 814) (by decide) ?_
    refine aw_less [5, 6] rfl ?_
    exact kk _ _ w1' w2' _ f' hx1 hx2 hz
  refine aw_if_ne K d_La_law_771 (t := 786) (by decide) rfl (fun _ => hend) (fun z => ?_)
  have hk0 : (o_wayAt E (xs (nI i + 1).toNatClampNeg)).1 = 0 := rn_inj (Nat.lt_of_le_of_lt lw_k_wayAt (by decide)) (by decide) z
  have hv0 := hv hk0
  refine aw_aload_n K d_La_law_774 rfl rfl ?_
  refine aw_iconst K d_La_law_775 rfl (v := 0) (by decide) ?_
  refine aw_lald K d_La_law_776 rfl (out_at hl1 (by rw [List.length_map]; exact (rm_vs hx2).2.2.2)) vp_in01 ?_
  refine aw_iload K d_La_law_777 rfl rfl ?_
  refine aw_i2l K d_La_law_779 rfl ?_
  refine aw_lcmp K d_La_law_780 rfl ?_
  exact aw_if_eq K d_La_law_781 (t := 786) (by decide) rfl (fun _ => hend) (fun z => absurd (show lg_cmp (f' 0) _ = 0 by rw [hv0]; exact lg_cmp_self _) z)
set_option maxRecDepth 20000 in
theorem op_run {X : am_X} (K : am_ok X code R_La 7 10) (hE : am_ex X) {b0 L : Nat} {xs : Nat → Int32} (hsc : am_sc X b0 L xs) {R : sp_R} {room e i bc bs : Nat} {E : sp_E} {w1 w2 : List am_C} {th : Int32} {f : Nat → Int64} (hL : L ≤ 2050) (hi : i + 3 < L) (hw1 : rx R room e E w1) (hw2 : rm R room E th w2) (hz : ez E) (hc1 : 1 ≤ bc) (hc2 : 6 ≤ bs)
    (kk : ∀ (R' : sp_R) (E' : sp_E) (w1' w2' : List am_C) (th' : Int32) (f' : Nat → Int64), rx R' room e E' w1' → rm R' room E' th' w2' → ez E' → AW X 814 (lw_lv i) [] (lw_w w1' w2' f') (bc - 1) (bs - 6)) : AW X 447 (lw_lv i) [] (lw_w w1 w2 f) bc bs := by
  refine aw_bud (Nat.sub_le bc 1) (Nat.sub_le bs 6) ?_
  refine aw_aload_n K d_La_law_447 rfl rfl ?_
  refine aw_callC K c_SE_run cb_La_83 ci_SE_run cs_SE_run (by decide) rfl (rx_0 hw1) d_La_law_448 rfl (av := []) rfl rfl (Nat.le_of_ble_eq_true rfl) (F := fun rv w9 => rv = some (aI (o_runv (o_run R room E))) ∧ rx R room e (o_run R room E) w9) ⟨R, room, e, E, rfl, rx_len hw1, hw1, fun w9 h9 => ⟨rfl, h9⟩⟩ ?_
  intro rv w1' hF
  obtain ⟨rfl, hx1⟩ := hF
  have hl1 := rx_len hx1
  refine ⟨hl1.trans (rx_len hw1).symm, rfl, ?_⟩
  refine aw_aload_n K d_La_law_451 rfl rfl ?_
  refine aw_callM K c_RM_run cb_La_86 cil_RM_run csl_RM_run (by decide) hl1 rfl (rm_0 hw2) d_La_law_452 rfl (av := []) rfl rfl (Nat.le_of_ble_eq_true rfl) (F := fun rv w9 => rv = some (aI (o_runv (o_run R room E))) ∧ rm R room (o_run R room E) 0 w9) ⟨R, room, E, th, rfl, (rm_vs hw2).2.2.2, hw2, hz, fun w9 h9 => ⟨rfl, h9⟩⟩ ?_
  intro rv w2' hF
  obtain ⟨rfl, hx2⟩ := hF
  refine ⟨(rm_vs hx2).2.2.2.trans (rm_vs hw2).2.2.2.symm, rfl, ?_⟩
  exact aw_icmp_eq K d_La_law_455 (t := 814) (by decide) rfl (fun _ => kk _ _ w1' w2' _ f hx1 hx2 (ez_on R room 8192 E (rm_vs hw2).1.1.2.2.2.2)) (fun z => absurd rfl z)
set_option maxRecDepth 20000 in
theorem op_way {X : am_X} (K : am_ok X code R_La 7 10) (hE : am_ex X) {b0 L : Nat} {xs : Nat → Int32} (hsc : am_sc X b0 L xs) {R : sp_R} {room e i bc bs : Nat} {E : sp_E} {w1 w2 : List am_C} {th : Int32} {f : Nat → Int64} (hL : L ≤ 2050) (hi : i + 3 < L) (hw1 : rx R room e E w1) (hw2 : rm R room E th w2) (hz : ez E) (hc1 : 1 ≤ bc) (hc2 : 6 ≤ bs)
    (kk : ∀ (R' : sp_R) (E' : sp_E) (w1' w2' : List am_C) (th' : Int32) (f' : Nat → Int64), rx R' room e E' w1' → rm R' room E' th' w2' → ez E' → AW X 814 (lw_lv i) [] (lw_w w1' w2' f') (bc - 1) (bs - 6)) : AW X 720 (lw_lv i) [] (lw_w w1 w2 f) bc bs := by
  refine aw_bud (Nat.sub_le bc 1) (Nat.sub_le bs 6) ?_
  refine aw_aload_n K d_La_law_720 rfl rfl ?_
  refine aw_callC K c_SE_way cb_La_100 ci_SE_way cs_SE_way (by decide) rfl (rx_0 hw1) d_La_law_721 rfl (av := []) rfl rfl (Nat.le_of_ble_eq_true rfl) (F := fun rv w9 => rv = some (aI (o_way E)) ∧ rx R room e E w9) ⟨R, room, e, E, rfl, rx_len hw1, hw1, rfl, hw1⟩ ?_
  intro rv w1' hF
  obtain ⟨rfl, hx1⟩ := hF
  have hl1 := rx_len hx1
  refine ⟨hl1.trans (rx_len hw1).symm, rfl, ?_⟩
  refine aw_aload_n K d_La_law_724 rfl rfl ?_
  refine aw_callM K c_RM_way cb_La_103 cil_RM_way csl_RM_way (by decide) hl1 rfl (rm_0 hw2) d_La_law_725 rfl (av := []) rfl rfl (Nat.le_of_ble_eq_true rfl) (F := fun rv w9 => rv = some (aI (o_way E)) ∧ rm R room E 0 w9) ⟨R, room, E, th, rfl, (rm_vs hw2).2.2.2, hw2, fun w9 h9 => ⟨rfl, h9⟩⟩ ?_
  intro rv w2' hF
  obtain ⟨rfl, hx2⟩ := hF
  refine ⟨(rm_vs hx2).2.2.2.trans (rm_vs hw2).2.2.2.symm, rfl, ?_⟩
  exact aw_icmp_eq K d_La_law_728 (t := 814) (by decide) rfl (fun _ => kk _ _ w1' w2' _ f hx1 hx2 hz) (fun z => absurd rfl z)
set_option maxRecDepth 20000 in
theorem op_count {X : am_X} (K : am_ok X code R_La 7 10) (hE : am_ex X) {b0 L : Nat} {xs : Nat → Int32} (hsc : am_sc X b0 L xs) {R : sp_R} {room e i bc bs : Nat} {E : sp_E} {w1 w2 : List am_C} {th : Int32} {f : Nat → Int64} (hL : L ≤ 2050) (hi : i + 3 < L) (hw1 : rx R room e E w1) (hw2 : rm R room E th w2) (hz : ez E) (hc1 : 1 ≤ bc) (hc2 : 6 ≤ bs)
    (kk : ∀ (R' : sp_R) (E' : sp_E) (w1' w2' : List am_C) (th' : Int32) (f' : Nat → Int64), rx R' room e E' w1' → rm R' room E' th' w2' → ez E' → AW X 814 (lw_lv i) [] (lw_w w1' w2' f') (bc - 1) (bs - 6)) : AW X 789 (lw_lv i) [] (lw_w w1 w2 f) bc bs := by
  refine aw_bud (Nat.sub_le bc 1) (Nat.sub_le bs 6) ?_
  refine aw_aload_n K d_La_law_789 rfl rfl ?_
  refine aw_aload_n K d_La_law_790 rfl rfl ?_
  refine aw_iload K d_La_law_791 rfl rfl ?_
  refine aw_iconst K d_La_law_793 rfl (v := 1) (by decide) ?_
  refine aw_iadd K d_La_law_794 rfl ?_
  refine aw_sld K hsc d_La_law_795 rfl (lw_in1 (by omega) (by omega)) ?_
  refine aw_callC K c_SE_count cb_La_107 ci_SE_count cs_SE_count (by decide) rfl (rx_0 hw1) d_La_law_796 rfl (av := [aI (xs (nI i + 1).toNatClampNeg)]) rfl rfl (Nat.le_of_ble_eq_true rfl) (F := fun rv w9 => rv = some (aI (o_count R E (xs (nI i + 1).toNatClampNeg))) ∧ rx R room e E w9) ⟨R, room, e, E, (xs (nI i + 1).toNatClampNeg), rfl, rx_len hw1, hw1, rfl, hw1⟩ ?_
  intro rv w1' hF
  obtain ⟨rfl, hx1⟩ := hF
  have hl1 := rx_len hx1
  refine ⟨hl1.trans (rx_len hw1).symm, rfl, ?_⟩
  refine aw_aload_n K d_La_law_799 rfl rfl ?_
  refine aw_aload_n K d_La_law_800 rfl rfl ?_
  refine aw_iload K d_La_law_801 rfl rfl ?_
  refine aw_iconst K d_La_law_803 rfl (v := 1) (by decide) ?_
  refine aw_iadd K d_La_law_804 rfl ?_
  refine aw_sld K hsc d_La_law_805 rfl (lw_in1 (by omega) (by omega)) ?_
  refine aw_callM K c_RM_count cb_La_110 cil_RM_count csl_RM_count (by decide) hl1 rfl (rm_0 hw2) d_La_law_806 rfl (av := [aI (xs (nI i + 1).toNatClampNeg)]) rfl rfl (Nat.le_of_ble_eq_true rfl) (F := fun rv w9 => rv = some (aI (o_count R E (xs (nI i + 1).toNatClampNeg))) ∧ rm R room E 0 w9) ⟨R, room, E, th, (xs (nI i + 1).toNatClampNeg), rfl, (rm_vs hw2).2.2.2, hw2, fun w9 h9 => ⟨rfl, h9⟩⟩ ?_
  intro rv w2' hF
  obtain ⟨rfl, hx2⟩ := hF
  refine ⟨(rm_vs hx2).2.2.2.trans (rm_vs hw2).2.2.2.symm, rfl, ?_⟩
  exact aw_icmp_eq K d_La_law_809 (t := 814) (by decide) rfl (fun _ => kk _ _ w1' w2' _ f hx1 hx2 hz) (fun z => absurd rfl z)

set_option maxRecDepth 20000 in
theorem x_Ex_forget_0 {X : am_X} {dd bc bs : Nat} (K : am_ok X b_Ex_forget R_Ex 1 dd) {post : Option am_V → List am_C → Prop} (hr : am_rt X none post) {sp_St_clear : am_S} {dd_St_clear : Nat} (c_St_clear : Con y_St_clear b_St_clear 1 none dd_St_clear 0 0 false sp_St_clear) (hdd_St_clear : dd_St_clear + 1 ≤ dd) {s_size e_ending e_gone e_steps e_stepsBack e_stuck e_stoodFor e_stepsHere : Int32} {c0 c1 c2 c3 c4 c5 c6 c7 c8 c10 c11 c12 c13 c14 c15 c16 c18 c19 c20 c21 c22 c23 c24 c25 : am_C}
    (h : sp_St_clear [aR 9] [c0, c1, c2, c3, c4, c5, c6, c7, c8, oC 2 [aI s_size, aR 10, aR 11, aR 12, aR 13, aR 14, aR 15, aR 16], c10, c11, c12, c13, c14, c15, c16, oC 3 [aR 1, aR 9, aI e_ending, aI e_gone, aI e_steps, aI e_stepsBack, aI e_stuck, aI e_stoodFor, aI e_stepsHere, aR 18, aR 22], c18, c19, c20, c21, c22, c23, c24, c25] (fun rv w' => AW X 7 [some (aR 17)] (rv.toList ++ []) w' bc bs)) :
    AW X 0 [some (aR 17)] [] [c0, c1, c2, c3, c4, c5, c6, c7, c8, oC 2 [aI s_size, aR 10, aR 11, aR 12, aR 13, aR 14, aR 15, aR 16], c10, c11, c12, c13, c14, c15, c16, oC 3 [aR 1, aR 9, aI e_ending, aI e_gone, aI e_steps, aI e_stepsBack, aI e_stuck, aI e_stoodFor, aI e_stepsHere, aR 18, aR 22], c18, c19, c20, c21, c22, c23, c24, c25] bc bs := by
  refine aw_aload_n K d_Ex_forget_0 rfl rfl ?_
  refine aw_getf K fd_Ex_37 d_Ex_forget_1 rfl rfl rfl ?_
  exact aw_callV K c_St_clear cb_Ex_58 ci_St_clear cs_St_clear hdd_St_clear (k := 9) rfl rfl d_Ex_forget_4 rfl (av := []) rfl (Nat.le_of_ble_eq_true rfl) h (fun rv w' hF => hF)
set_option maxRecDepth 20000 in
theorem x_Ex_forget_7 {X : am_X} {dd bc bs : Nat} (K : am_ok X b_Ex_forget R_Ex 1 dd) {post : Option am_V → List am_C → Prop} (hr : am_rt X none post) {s_size e_ending e_gone e_steps e_stepsBack e_stuck e_stoodFor e_stepsHere : Int32} {c0 c1 c2 c3 c4 c5 c6 c7 c8 c10 c11 c12 c13 c14 c15 c16 c18 c19 c20 c21 c22 c23 c24 c25 : am_C}
    (h : post none [c0, c1, c2, c3, c4, c5, c6, c7, c8, oC 2 [aI s_size, aR 10, aR 11, aR 12, aR 13, aR 14, aR 15, aR 16], c10, c11, c12, c13, c14, c15, c16, oC 3 [aR 1, aR 9, aI 0, aI 0, aI 0, aI 0, aI 0, aI 0, aI e_stepsHere, aR 18, aR 22], c18, c19, c20, c21, c22, c23, c24, c25]) :
    AW X 7 [some (aR 17)] [] [c0, c1, c2, c3, c4, c5, c6, c7, c8, oC 2 [aI s_size, aR 10, aR 11, aR 12, aR 13, aR 14, aR 15, aR 16], c10, c11, c12, c13, c14, c15, c16, oC 3 [aR 1, aR 9, aI e_ending, aI e_gone, aI e_steps, aI e_stepsBack, aI e_stuck, aI e_stoodFor, aI e_stepsHere, aR 18, aR 22], c18, c19, c20, c21, c22, c23, c24, c25] bc bs := by
  refine aw_aload_n K d_Ex_forget_7 rfl rfl ?_
  refine aw_iconst K d_Ex_forget_8 rfl (v := 0) (by decide) ?_
  refine aw_putf K fp_Ex_9 d_Ex_forget_9 rfl rfl (Nat.le_of_ble_eq_true rfl) (am_fit_i _) (w' := [c0, c1, c2, c3, c4, c5, c6, c7, c8, oC 2 [aI s_size, aR 10, aR 11, aR 12, aR 13, aR 14, aR 15, aR 16], c10, c11, c12, c13, c14, c15, c16, oC 3 [aR 1, aR 9, aI 0, aI e_gone, aI e_steps, aI e_stepsBack, aI e_stuck, aI e_stoodFor, aI e_stepsHere, aR 18, aR 22], c18, c19, c20, c21, c22, c23, c24, c25]) rfl ?_
  refine aw_aload_n K d_Ex_forget_12 rfl rfl ?_
  refine aw_iconst K d_Ex_forget_13 rfl (v := 0) (by decide) ?_
  refine aw_putf K fp_Ex_15 d_Ex_forget_14 rfl rfl (Nat.le_of_ble_eq_true rfl) (am_fit_i _) (w' := [c0, c1, c2, c3, c4, c5, c6, c7, c8, oC 2 [aI s_size, aR 10, aR 11, aR 12, aR 13, aR 14, aR 15, aR 16], c10, c11, c12, c13, c14, c15, c16, oC 3 [aR 1, aR 9, aI 0, aI 0, aI e_steps, aI e_stepsBack, aI e_stuck, aI e_stoodFor, aI e_stepsHere, aR 18, aR 22], c18, c19, c20, c21, c22, c23, c24, c25]) rfl ?_
  refine aw_aload_n K d_Ex_forget_17 rfl rfl ?_
  refine aw_iconst K d_Ex_forget_18 rfl (v := 0) (by decide) ?_
  refine aw_putf K fp_Ex_18 d_Ex_forget_19 rfl rfl (Nat.le_of_ble_eq_true rfl) (am_fit_i _) (w' := [c0, c1, c2, c3, c4, c5, c6, c7, c8, oC 2 [aI s_size, aR 10, aR 11, aR 12, aR 13, aR 14, aR 15, aR 16], c10, c11, c12, c13, c14, c15, c16, oC 3 [aR 1, aR 9, aI 0, aI 0, aI 0, aI e_stepsBack, aI e_stuck, aI e_stoodFor, aI e_stepsHere, aR 18, aR 22], c18, c19, c20, c21, c22, c23, c24, c25]) rfl ?_
  refine aw_aload_n K d_Ex_forget_22 rfl rfl ?_
  refine aw_iconst K d_Ex_forget_23 rfl (v := 0) (by decide) ?_
  refine aw_putf K fp_Ex_21 d_Ex_forget_24 rfl rfl (Nat.le_of_ble_eq_true rfl) (am_fit_i _) (w' := [c0, c1, c2, c3, c4, c5, c6, c7, c8, oC 2 [aI s_size, aR 10, aR 11, aR 12, aR 13, aR 14, aR 15, aR 16], c10, c11, c12, c13, c14, c15, c16, oC 3 [aR 1, aR 9, aI 0, aI 0, aI 0, aI 0, aI e_stuck, aI e_stoodFor, aI e_stepsHere, aR 18, aR 22], c18, c19, c20, c21, c22, c23, c24, c25]) rfl ?_
  refine aw_aload_n K d_Ex_forget_27 rfl rfl ?_
  refine aw_iconst K d_Ex_forget_28 rfl (v := 0) (by decide) ?_
  refine aw_putf K fp_Ex_24 d_Ex_forget_29 rfl rfl (Nat.le_of_ble_eq_true rfl) (am_fit_i _) (w' := [c0, c1, c2, c3, c4, c5, c6, c7, c8, oC 2 [aI s_size, aR 10, aR 11, aR 12, aR 13, aR 14, aR 15, aR 16], c10, c11, c12, c13, c14, c15, c16, oC 3 [aR 1, aR 9, aI 0, aI 0, aI 0, aI 0, aI 0, aI e_stoodFor, aI e_stepsHere, aR 18, aR 22], c18, c19, c20, c21, c22, c23, c24, c25]) rfl ?_
  refine aw_aload_n K d_Ex_forget_32 rfl rfl ?_
  refine aw_iconst K d_Ex_forget_33 rfl (v := 0) (by decide) ?_
  refine aw_putf K fp_Ex_27 d_Ex_forget_34 rfl rfl (Nat.le_of_ble_eq_true rfl) (am_fit_i _) (w' := [c0, c1, c2, c3, c4, c5, c6, c7, c8, oC 2 [aI s_size, aR 10, aR 11, aR 12, aR 13, aR 14, aR 15, aR 16], c10, c11, c12, c13, c14, c15, c16, oC 3 [aR 1, aR 9, aI 0, aI 0, aI 0, aI 0, aI 0, aI 0, aI e_stepsHere, aR 18, aR 22], c18, c19, c20, c21, c22, c23, c24, c25]) rfl ?_
  exact aw_vret K hr d_Ex_forget_37 h
set_option maxRecDepth 20000 in
theorem x_Ex_goOn_0 {X : am_X} {dd bc bs : Nat} (K : am_ok X b_Ex_goOn R_Ex 3 dd) {post : Option am_V → List am_C → Prop} (hr : am_rt X none post) {sp_Ex_begin : am_S} {dd_Ex_begin : Nat} (c_Ex_begin : Con y_Ex_begin b_Ex_begin 1 none dd_Ex_begin 0 0 false sp_Ex_begin) (hdd_Ex_begin : dd_Ex_begin + 1 ≤ dd) {l1 s_size e_ending e_gone e_steps e_stepsBack e_stuck e_stoodFor e_stepsHere : Int32} {c0 c1 c2 c3 c4 c5 c6 c7 c8 c10 c11 c12 c13 c14 c15 c16 c18 c19 c20 c21 c22 c23 c24 c25 : am_C}
    (h : (¬ s_size = 0 → AW X 14 [some (aR 17), some (aI l1), none] [] [c0, c1, c2, c3, c4, c5, c6, c7, c8, oC 2 [aI s_size, aR 10, aR 11, aR 12, aR 13, aR 14, aR 15, aR 16], c10, c11, c12, c13, c14, c15, c16, oC 3 [aR 1, aR 9, aI e_ending, aI e_gone, aI e_steps, aI e_stepsBack, aI e_stuck, aI e_stoodFor, aI e_stepsHere, aR 18, aR 22], c18, c19, c20, c21, c22, c23, c24, c25] bc bs) ∧ (s_size = 0 → sp_Ex_begin [aR 17] [c0, c1, c2, c3, c4, c5, c6, c7, c8, oC 2 [aI s_size, aR 10, aR 11, aR 12, aR 13, aR 14, aR 15, aR 16], c10, c11, c12, c13, c14, c15, c16, oC 3 [aR 1, aR 9, aI e_ending, aI e_gone, aI e_steps, aI e_stepsBack, aI e_stuck, aI e_stoodFor, aI e_stepsHere, aR 18, aR 22], c18, c19, c20, c21, c22, c23, c24, c25] (fun rv w' => AW X 14 [some (aR 17), some (aI l1), none] (rv.toList ++ []) w' bc bs))) :
    AW X 0 [some (aR 17), some (aI l1), none] [] [c0, c1, c2, c3, c4, c5, c6, c7, c8, oC 2 [aI s_size, aR 10, aR 11, aR 12, aR 13, aR 14, aR 15, aR 16], c10, c11, c12, c13, c14, c15, c16, oC 3 [aR 1, aR 9, aI e_ending, aI e_gone, aI e_steps, aI e_stepsBack, aI e_stuck, aI e_stoodFor, aI e_stepsHere, aR 18, aR 22], c18, c19, c20, c21, c22, c23, c24, c25] bc bs := by
  refine aw_aload_n K d_Ex_goOn_0 rfl rfl ?_
  refine aw_getf K fd_Ex_37 d_Ex_goOn_1 rfl rfl rfl ?_
  refine aw_getf K fd_Ex_63 d_Ex_goOn_4 rfl rfl rfl ?_
  refine aw_if_ne K d_Ex_goOn_7 (t := 14) (by decide) rfl (fun q => ?_) (fun q => ?_)
  · replace h := h.1 q
    exact h
  · replace h := h.2 q
    refine aw_aload_n K d_Ex_goOn_10 rfl rfl ?_
    exact aw_callV K c_Ex_begin cb_Ex_66 ci_Ex_begin cs_Ex_begin hdd_Ex_begin (k := 17) rfl rfl d_Ex_goOn_11 rfl (av := []) rfl (Nat.le_of_ble_eq_true rfl) h (fun rv w' hF => hF)
set_option maxRecDepth 20000 in
theorem x_Ex_goOn_14 {X : am_X} {dd bc bs : Nat} (K : am_ok X b_Ex_goOn R_Ex 3 dd) {post : Option am_V → List am_C → Prop} (hr : am_rt X none post) {l1 s_size e_ending e_gone e_steps e_stepsBack e_stuck e_stoodFor e_stepsHere : Int32} {c0 c1 c2 c3 c4 c5 c6 c7 c8 c10 c11 c12 c13 c14 c15 c16 c18 c19 c20 c21 c22 c23 c24 c25 : am_C}
    (h : AW X 16 [some (aR 17), some (aI l1), some (aI 0)] [] [c0, c1, c2, c3, c4, c5, c6, c7, c8, oC 2 [aI s_size, aR 10, aR 11, aR 12, aR 13, aR 14, aR 15, aR 16], c10, c11, c12, c13, c14, c15, c16, oC 3 [aR 1, aR 9, aI e_ending, aI e_gone, aI e_steps, aI e_stepsBack, aI e_stuck, aI e_stoodFor, aI e_stepsHere, aR 18, aR 22], c18, c19, c20, c21, c22, c23, c24, c25] bc bs) :
    AW X 14 [some (aR 17), some (aI l1), none] [] [c0, c1, c2, c3, c4, c5, c6, c7, c8, oC 2 [aI s_size, aR 10, aR 11, aR 12, aR 13, aR 14, aR 15, aR 16], c10, c11, c12, c13, c14, c15, c16, oC 3 [aR 1, aR 9, aI e_ending, aI e_gone, aI e_steps, aI e_stepsBack, aI e_stuck, aI e_stoodFor, aI e_stepsHere, aR 18, aR 22], c18, c19, c20, c21, c22, c23, c24, c25] bc bs := by
  refine aw_iconst K d_Ex_goOn_14 rfl (v := 0) (by decide) ?_
  refine aw_istore_n K d_Ex_goOn_15 rfl (by decide) (lv' := [some (aR 17), some (aI l1), some (aI 0)]) rfl ?_
  exact h
set_option maxRecDepth 20000 in
theorem x_Ex_goOn_16 {X : am_X} {dd bc bs : Nat} (K : am_ok X b_Ex_goOn R_Ex 3 dd) {post : Option am_V → List am_C → Prop} (hr : am_rt X none post) {sp_Ex_goThrough : am_S} {dd_Ex_goThrough : Nat} (c_Ex_goThrough : Con y_Ex_goThrough b_Ex_goThrough 4 none dd_Ex_goThrough 0 0 false sp_Ex_goThrough) (hdd_Ex_goThrough : dd_Ex_goThrough + 1 ≤ dd) {l1 l2 s_size e_ending e_gone e_steps e_stepsBack e_stuck e_stoodFor e_stepsHere : Int32} {c0 c1 c2 c3 c4 c5 c6 c7 c8 c10 c11 c12 c13 c14 c15 c16 c18 c19 c20 c21 c22 c23 c24 c25 : am_C}
    (h : (l1 ≤ l2 → post none [c0, c1, c2, c3, c4, c5, c6, c7, c8, oC 2 [aI s_size, aR 10, aR 11, aR 12, aR 13, aR 14, aR 15, aR 16], c10, c11, c12, c13, c14, c15, c16, oC 3 [aR 1, aR 9, aI e_ending, aI e_gone, aI e_steps, aI e_stepsBack, aI e_stuck, aI e_stoodFor, aI e_stepsHere, aR 18, aR 22], c18, c19, c20, c21, c22, c23, c24, c25]) ∧ (¬ l1 ≤ l2 → (¬ e_ending = 0 → post none [c0, c1, c2, c3, c4, c5, c6, c7, c8, oC 2 [aI s_size, aR 10, aR 11, aR 12, aR 13, aR 14, aR 15, aR 16], c10, c11, c12, c13, c14, c15, c16, oC 3 [aR 1, aR 9, aI e_ending, aI e_gone, aI e_steps, aI e_stepsBack, aI e_stuck, aI e_stoodFor, aI e_stepsHere, aR 18, aR 22], c18, c19, c20, c21, c22, c23, c24, c25]) ∧ (e_ending = 0 → (s_size ≤ e_gone → post none [c0, c1, c2, c3, c4, c5, c6, c7, c8, oC 2 [aI s_size, aR 10, aR 11, aR 12, aR 13, aR 14, aR 15, aR 16], c10, c11, c12, c13, c14, c15, c16, oC 3 [aR 1, aR 9, aI e_ending, aI e_gone, aI e_steps, aI e_stepsBack, aI e_stuck, aI e_stoodFor, aI e_stepsHere, aR 18, aR 22], c18, c19, c20, c21, c22, c23, c24, c25]) ∧ (¬ s_size ≤ e_gone → sp_Ex_goThrough [aR 17, aI e_gone] [c0, c1, c2, c3, c4, c5, c6, c7, c8, oC 2 [aI s_size, aR 10, aR 11, aR 12, aR 13, aR 14, aR 15, aR 16], c10, c11, c12, c13, c14, c15, c16, oC 3 [aR 1, aR 9, aI e_ending, aI e_gone, aI e_steps, aI e_stepsBack, aI e_stuck, aI e_stoodFor, aI e_stepsHere, aR 18, aR 22], c18, c19, c20, c21, c22, c23, c24, c25] (fun rv w' => AW X 50 [some (aR 17), some (aI l1), some (aI l2)] (rv.toList ++ []) w' bc bs))))) :
    AW X 16 [some (aR 17), some (aI l1), some (aI l2)] [] [c0, c1, c2, c3, c4, c5, c6, c7, c8, oC 2 [aI s_size, aR 10, aR 11, aR 12, aR 13, aR 14, aR 15, aR 16], c10, c11, c12, c13, c14, c15, c16, oC 3 [aR 1, aR 9, aI e_ending, aI e_gone, aI e_steps, aI e_stepsBack, aI e_stuck, aI e_stoodFor, aI e_stepsHere, aR 18, aR 22], c18, c19, c20, c21, c22, c23, c24, c25] bc bs := by
  refine aw_iload_n K d_Ex_goOn_16 rfl rfl ?_
  refine aw_iload_n K d_Ex_goOn_17 rfl rfl ?_
  refine aw_icmp_ge K d_Ex_goOn_18 (t := 56) (by decide) rfl (fun q => ?_) (fun q => ?_)
  · replace h := h.1 q
    exact aw_vret K hr d_Ex_goOn_56 h
  · replace h := h.2 q
    refine aw_aload_n K d_Ex_goOn_21 rfl rfl ?_
    refine aw_getf K fd_Ex_9 d_Ex_goOn_22 rfl rfl rfl ?_
    refine aw_if_ne K d_Ex_goOn_25 (t := 56) (by decide) rfl (fun q => ?_) (fun q => ?_)
    · replace h := h.1 q
      exact aw_vret K hr d_Ex_goOn_56 h
    · replace h := h.2 q
      refine aw_aload_n K d_Ex_goOn_28 rfl rfl ?_
      refine aw_getf K fd_Ex_15 d_Ex_goOn_29 rfl rfl rfl ?_
      refine aw_aload_n K d_Ex_goOn_32 rfl rfl ?_
      refine aw_getf K fd_Ex_37 d_Ex_goOn_33 rfl rfl rfl ?_
      refine aw_getf K fd_Ex_63 d_Ex_goOn_36 rfl rfl rfl ?_
      refine aw_icmp_ge K d_Ex_goOn_39 (t := 56) (by decide) rfl (fun q => ?_) (fun q => ?_)
      · replace h := h.1 q
        exact aw_vret K hr d_Ex_goOn_56 h
      · replace h := h.2 q
        refine aw_aload_n K d_Ex_goOn_42 rfl rfl ?_
        refine aw_aload_n K d_Ex_goOn_43 rfl rfl ?_
        refine aw_getf K fd_Ex_15 d_Ex_goOn_44 rfl rfl rfl ?_
        exact aw_callV K c_Ex_goThrough cb_Ex_69 ci_Ex_goThrough cs_Ex_goThrough hdd_Ex_goThrough (k := 17) rfl rfl d_Ex_goOn_47 rfl (av := [aI e_gone]) rfl (Nat.le_of_ble_eq_true rfl) h (fun rv w' hF => hF)
set_option maxRecDepth 20000 in
theorem x_Ex_goOn_50 {X : am_X} {dd bc bs : Nat} (K : am_ok X b_Ex_goOn R_Ex 3 dd) {post : Option am_V → List am_C → Prop} (hr : am_rt X none post) {l1 l2 s_size e_ending e_gone e_steps e_stepsBack e_stuck e_stoodFor e_stepsHere : Int32} {c0 c1 c2 c3 c4 c5 c6 c7 c8 c10 c11 c12 c13 c14 c15 c16 c18 c19 c20 c21 c22 c23 c24 c25 : am_C}
    (h : AW X 16 [some (aR 17), some (aI l1), some (aI (l2 + 1))] [] [c0, c1, c2, c3, c4, c5, c6, c7, c8, oC 2 [aI s_size, aR 10, aR 11, aR 12, aR 13, aR 14, aR 15, aR 16], c10, c11, c12, c13, c14, c15, c16, oC 3 [aR 1, aR 9, aI e_ending, aI e_gone, aI e_steps, aI e_stepsBack, aI e_stuck, aI e_stoodFor, aI e_stepsHere, aR 18, aR 22], c18, c19, c20, c21, c22, c23, c24, c25] bc bs) :
    AW X 50 [some (aR 17), some (aI l1), some (aI l2)] [] [c0, c1, c2, c3, c4, c5, c6, c7, c8, oC 2 [aI s_size, aR 10, aR 11, aR 12, aR 13, aR 14, aR 15, aR 16], c10, c11, c12, c13, c14, c15, c16, oC 3 [aR 1, aR 9, aI e_ending, aI e_gone, aI e_steps, aI e_stepsBack, aI e_stuck, aI e_stoodFor, aI e_stepsHere, aR 18, aR 22], c18, c19, c20, c21, c22, c23, c24, c25] bc bs := by
  refine aw_iinc K d_Ex_goOn_50 rfl rfl (v := l2 + 1) rfl (by decide) (lv' := [some (aR 17), some (aI l1), some (aI (l2 + 1))]) rfl ?_
  refine aw_goto K d_Ex_goOn_53 (n := 16) (by decide) ?_
  exact h
set_option maxRecDepth 20000 in
theorem x_Ex_begin_0 {X : am_X} {dd bc bs : Nat} (K : am_ok X b_Ex_begin R_Ex 1 dd) {post : Option am_V → List am_C → Prop} (hr : am_rt X none post) {sp_Dr_load_22 : am_S} {dd_Dr_load_22 : Nat} (c_Dr_load_22 : Con y_Dr_load b_Dr_load 4 none dd_Dr_load_22 0 0 false sp_Dr_load_22) (hdd_Dr_load_22 : dd_Dr_load_22 + 1 ≤ dd) {s_size e_ending e_gone e_steps e_stepsBack e_stuck e_stoodFor e_stepsHere v_nodes v_numberings v_size v_symmetries : Int32} {v_form : Int64} {c0 c1 c2 c3 c4 c5 c6 c7 c8 c10 c11 c12 c13 c14 c15 c16 c18 c19 c20 c21 c23 c24 c25 : am_C}
    (h : sp_Dr_load_22 [aR 22, aL 0] [c0, c1, c2, c3, c4, c5, c6, c7, c8, oC 2 [aI s_size, aR 10, aR 11, aR 12, aR 13, aR 14, aR 15, aR 16], c10, c11, c12, c13, c14, c15, c16, oC 3 [aR 1, aR 9, aI e_ending, aI e_gone, aI e_steps, aI e_stepsBack, aI e_stuck, aI e_stoodFor, aI e_stepsHere, aR 18, aR 22], c18, c19, c20, c21, oC 4 [aI v_nodes, aI v_numberings, aR 23, aR 24, aI v_size, aL v_form, aI v_symmetries, aR 25], c23, c24, c25] (fun rv w' => AW X 8 [some (aR 17)] (rv.toList ++ []) w' bc bs)) :
    AW X 0 [some (aR 17)] [] [c0, c1, c2, c3, c4, c5, c6, c7, c8, oC 2 [aI s_size, aR 10, aR 11, aR 12, aR 13, aR 14, aR 15, aR 16], c10, c11, c12, c13, c14, c15, c16, oC 3 [aR 1, aR 9, aI e_ending, aI e_gone, aI e_steps, aI e_stepsBack, aI e_stuck, aI e_stoodFor, aI e_stepsHere, aR 18, aR 22], c18, c19, c20, c21, oC 4 [aI v_nodes, aI v_numberings, aR 23, aR 24, aI v_size, aL v_form, aI v_symmetries, aR 25], c23, c24, c25] bc bs := by
  refine aw_aload_n K d_Ex_begin_0 rfl rfl ?_
  refine aw_getf K fd_Ex_55 d_Ex_begin_1 rfl rfl rfl ?_
  refine aw_lconst K d_Ex_begin_4 rfl (v := 0) (by decide) ?_
  exact aw_callV K c_Dr_load_22 cb_Ex_72 ci_Dr_load cs_Dr_load hdd_Dr_load_22 (k := 22) rfl rfl d_Ex_begin_5 rfl (av := [aL 0]) rfl (Nat.le_of_ble_eq_true rfl) h (fun rv w' hF => hF)
set_option maxRecDepth 20000 in
theorem x_Ex_begin_8 {X : am_X} {dd bc bs : Nat} (K : am_ok X b_Ex_begin R_Ex 1 dd) {post : Option am_V → List am_C → Prop} (hr : am_rt X none post) {sp_Dr_settle : am_S} {dd_Dr_settle : Nat} (c_Dr_settle : Con y_Dr_settle b_Dr_settle 6 none dd_Dr_settle 0 0 false sp_Dr_settle) (hdd_Dr_settle : dd_Dr_settle + 1 ≤ dd) {s_size e_ending e_gone e_steps e_stepsBack e_stuck e_stoodFor e_stepsHere v_nodes v_numberings v_size v_symmetries : Int32} {v_form : Int64} {c0 c1 c2 c3 c4 c5 c6 c7 c8 c10 c11 c12 c13 c14 c15 c16 c18 c19 c20 c21 c23 c24 c25 : am_C}
    (h : sp_Dr_settle [aR 22] [c0, c1, c2, c3, c4, c5, c6, c7, c8, oC 2 [aI s_size, aR 10, aR 11, aR 12, aR 13, aR 14, aR 15, aR 16], c10, c11, c12, c13, c14, c15, c16, oC 3 [aR 1, aR 9, aI e_ending, aI e_gone, aI e_steps, aI e_stepsBack, aI e_stuck, aI e_stoodFor, aI e_stepsHere, aR 18, aR 22], c18, c19, c20, c21, oC 4 [aI v_nodes, aI v_numberings, aR 23, aR 24, aI v_size, aL v_form, aI v_symmetries, aR 25], c23, c24, c25] (fun rv w' => AW X 15 [some (aR 17)] (rv.toList ++ []) w' bc bs)) :
    AW X 8 [some (aR 17)] [] [c0, c1, c2, c3, c4, c5, c6, c7, c8, oC 2 [aI s_size, aR 10, aR 11, aR 12, aR 13, aR 14, aR 15, aR 16], c10, c11, c12, c13, c14, c15, c16, oC 3 [aR 1, aR 9, aI e_ending, aI e_gone, aI e_steps, aI e_stepsBack, aI e_stuck, aI e_stoodFor, aI e_stepsHere, aR 18, aR 22], c18, c19, c20, c21, oC 4 [aI v_nodes, aI v_numberings, aR 23, aR 24, aI v_size, aL v_form, aI v_symmetries, aR 25], c23, c24, c25] bc bs := by
  refine aw_aload_n K d_Ex_begin_8 rfl rfl ?_
  refine aw_getf K fd_Ex_55 d_Ex_begin_9 rfl rfl rfl ?_
  exact aw_callV K c_Dr_settle cb_Ex_76 ci_Dr_settle cs_Dr_settle hdd_Dr_settle (k := 22) rfl rfl d_Ex_begin_12 rfl (av := []) rfl (Nat.le_of_ble_eq_true rfl) h (fun rv w' hF => hF)
set_option maxRecDepth 20000 in
theorem x_Ex_begin_15 {X : am_X} {dd bc bs : Nat} (K : am_ok X b_Ex_begin R_Ex 1 dd) {post : Option am_V → List am_C → Prop} (hr : am_rt X none post) {sp_St_slotOf : am_S} {dd_St_slotOf : Nat} (c_St_slotOf : Con y_St_slotOf b_St_slotOf 6 (some .int) dd_St_slotOf 0 0 false sp_St_slotOf) (hdd_St_slotOf : dd_St_slotOf + 1 ≤ dd) {s_size e_ending e_gone e_steps e_stepsBack e_stuck e_stoodFor e_stepsHere v_nodes v_numberings v_size v_symmetries : Int32} {v_form : Int64} {c0 c1 c2 c3 c4 c5 c6 c7 c8 c10 c11 c12 c13 c14 c15 c16 c18 c19 c20 c21 c23 c24 c25 : am_C}
    (h : sp_St_slotOf [aR 9, aL v_form] [c0, c1, c2, c3, c4, c5, c6, c7, c8, oC 2 [aI s_size, aR 10, aR 11, aR 12, aR 13, aR 14, aR 15, aR 16], c10, c11, c12, c13, c14, c15, c16, oC 3 [aR 1, aR 9, aI e_ending, aI e_gone, aI e_steps, aI e_stepsBack, aI e_stuck, aI e_stoodFor, aI e_stepsHere, aR 18, aR 22], c18, c19, c20, c21, oC 4 [aI v_nodes, aI v_numberings, aR 23, aR 24, aI v_size, aL v_form, aI v_symmetries, aR 25], c23, c24, c25] (fun rv w' => AW X 30 [none] (rv.toList ++ [aR 17]) w' bc bs)) :
    AW X 15 [some (aR 17)] [] [c0, c1, c2, c3, c4, c5, c6, c7, c8, oC 2 [aI s_size, aR 10, aR 11, aR 12, aR 13, aR 14, aR 15, aR 16], c10, c11, c12, c13, c14, c15, c16, oC 3 [aR 1, aR 9, aI e_ending, aI e_gone, aI e_steps, aI e_stepsBack, aI e_stuck, aI e_stoodFor, aI e_stepsHere, aR 18, aR 22], c18, c19, c20, c21, oC 4 [aI v_nodes, aI v_numberings, aR 23, aR 24, aI v_size, aL v_form, aI v_symmetries, aR 25], c23, c24, c25] bc bs := by
  refine aw_aload_n K d_Ex_begin_15 rfl rfl ?_
  refine aw_aload_n K d_Ex_begin_16 rfl rfl ?_
  refine aw_getf K fd_Ex_37 d_Ex_begin_17 rfl rfl rfl ?_
  refine aw_aload_n K d_Ex_begin_20 rfl rfl ?_
  refine aw_getf K fd_Ex_55 d_Ex_begin_21 rfl rfl rfl ?_
  refine aw_getf K fd_Ex_79 d_Ex_begin_24 rfl rfl rfl ?_
  refine aw_less [0] rfl ?_
  exact aw_callV K c_St_slotOf cb_Ex_83 ci_St_slotOf cs_St_slotOf hdd_St_slotOf (k := 9) rfl rfl d_Ex_begin_27 rfl (av := [aL v_form]) rfl (Nat.le_of_ble_eq_true rfl) h (fun rv w' hF => hF)
set_option maxRecDepth 20000 in
theorem x_Ex_begin_30 {X : am_X} {dd bc bs : Nat} (K : am_ok X b_Ex_begin R_Ex 1 dd) {post : Option am_V → List am_C → Prop} (hr : am_rt X none post) {sp_Ex_take : am_S} {dd_Ex_take : Nat} (c_Ex_take : Con y_Ex_take b_Ex_take 4 none dd_Ex_take 0 0 false sp_Ex_take) (hdd_Ex_take : dd_Ex_take + 1 ≤ dd) {s0 s_size e_ending e_gone e_steps e_stepsBack e_stuck e_stoodFor e_stepsHere v_nodes v_numberings v_size v_symmetries : Int32} {v_form : Int64} {c0 c1 c2 c3 c4 c5 c6 c7 c8 c10 c11 c12 c13 c14 c15 c16 c18 c19 c20 c21 c23 c24 c25 : am_C}
    (h : sp_Ex_take [aR 17, aI s0, aI ((-1)), aI ((-1))] [c0, c1, c2, c3, c4, c5, c6, c7, c8, oC 2 [aI s_size, aR 10, aR 11, aR 12, aR 13, aR 14, aR 15, aR 16], c10, c11, c12, c13, c14, c15, c16, oC 3 [aR 1, aR 9, aI e_ending, aI e_gone, aI e_steps, aI e_stepsBack, aI e_stuck, aI e_stoodFor, aI e_stepsHere, aR 18, aR 22], c18, c19, c20, c21, oC 4 [aI v_nodes, aI v_numberings, aR 23, aR 24, aI v_size, aL v_form, aI v_symmetries, aR 25], c23, c24, c25] (fun rv w' => AW X 35 [none] (rv.toList ++ []) w' bc bs)) :
    AW X 30 [none] [aI s0, aR 17] [c0, c1, c2, c3, c4, c5, c6, c7, c8, oC 2 [aI s_size, aR 10, aR 11, aR 12, aR 13, aR 14, aR 15, aR 16], c10, c11, c12, c13, c14, c15, c16, oC 3 [aR 1, aR 9, aI e_ending, aI e_gone, aI e_steps, aI e_stepsBack, aI e_stuck, aI e_stoodFor, aI e_stepsHere, aR 18, aR 22], c18, c19, c20, c21, oC 4 [aI v_nodes, aI v_numberings, aR 23, aR 24, aI v_size, aL v_form, aI v_symmetries, aR 25], c23, c24, c25] bc bs := by
  refine aw_iconst K d_Ex_begin_30 rfl (v := (-1)) (by decide) ?_
  refine aw_iconst K d_Ex_begin_31 rfl (v := (-1)) (by decide) ?_
  exact aw_callV K c_Ex_take cb_Ex_87 ci_Ex_take cs_Ex_take hdd_Ex_take (k := 17) rfl rfl d_Ex_begin_32 rfl (av := [aI s0, aI ((-1)), aI ((-1))]) rfl (Nat.le_of_ble_eq_true rfl) h (fun rv w' hF => hF)
set_option maxRecDepth 20000 in
theorem x_Ex_begin_35 {X : am_X} {dd bc bs : Nat} (K : am_ok X b_Ex_begin R_Ex 1 dd) {post : Option am_V → List am_C → Prop} (hr : am_rt X none post) {s_size e_ending e_gone e_steps e_stepsBack e_stuck e_stoodFor e_stepsHere v_nodes v_numberings v_size v_symmetries : Int32} {v_form : Int64} {c0 c1 c2 c3 c4 c5 c6 c7 c8 c10 c11 c12 c13 c14 c15 c16 c18 c19 c20 c21 c23 c24 c25 : am_C}
    (h : post none [c0, c1, c2, c3, c4, c5, c6, c7, c8, oC 2 [aI s_size, aR 10, aR 11, aR 12, aR 13, aR 14, aR 15, aR 16], c10, c11, c12, c13, c14, c15, c16, oC 3 [aR 1, aR 9, aI e_ending, aI e_gone, aI e_steps, aI e_stepsBack, aI e_stuck, aI e_stoodFor, aI e_stepsHere, aR 18, aR 22], c18, c19, c20, c21, oC 4 [aI v_nodes, aI v_numberings, aR 23, aR 24, aI v_size, aL v_form, aI v_symmetries, aR 25], c23, c24, c25]) :
    AW X 35 [none] [] [c0, c1, c2, c3, c4, c5, c6, c7, c8, oC 2 [aI s_size, aR 10, aR 11, aR 12, aR 13, aR 14, aR 15, aR 16], c10, c11, c12, c13, c14, c15, c16, oC 3 [aR 1, aR 9, aI e_ending, aI e_gone, aI e_steps, aI e_stepsBack, aI e_stuck, aI e_stoodFor, aI e_stepsHere, aR 18, aR 22], c18, c19, c20, c21, oC 4 [aI v_nodes, aI v_numberings, aR 23, aR 24, aI v_size, aL v_form, aI v_symmetries, aR 25], c23, c24, c25] bc bs := by
  exact aw_vret K hr d_Ex_begin_35 h
set_option maxRecDepth 20000 in
theorem x_Ex_goThrough_0 {X : am_X} {dd bc bs : Nat} (K : am_ok X b_Ex_goThrough R_Ex 4 dd) {post : Option am_V → List am_C → Prop} (hr : am_rt X none post) {sp_Dr_load_18 : am_S} {dd_Dr_load_18 : Nat} (c_Dr_load_18 : Con y_Dr_load b_Dr_load 4 none dd_Dr_load_18 0 0 false sp_Dr_load_18) (hdd_Dr_load_18 : dd_Dr_load_18 + 1 ≤ dd) {l1 m_nodes m_states m_kinds m_rules s_size e_ending e_gone e_steps e_stepsBack e_stuck e_stoodFor e_stepsHere u_nodes u_numberings u_size u_symmetries : Int32} {m_badPairs u_form : Int64} {s_steps : Nat → Int32} {s_forms : Nat → Int64} {room : Nat} {c0 c2 c3 c4 c5 c6 c7 c8 c11 c12 c13 c15 c16 c19 c20 c21 c22 c23 c24 c25 : am_C}
    (h : vp_in l1 room ∧ sp_Dr_load_18 [aR 18, aL (s_forms l1.toNatClampNeg)] [c0, oC 1 [aI m_nodes, aI m_states, aI m_kinds, aI m_rules, aR 2, aR 3, aR 4, aR 5, aR 6, aR 7, aR 8, aL m_badPairs], c2, c3, c4, c5, c6, c7, c8, oC 2 [aI s_size, aR 10, aR 11, aR 12, aR 13, aR 14, aR 15, aR 16], jC room s_forms, c11, c12, c13, iC room s_steps, c15, c16, oC 3 [aR 1, aR 9, aI e_ending, aI e_gone, aI e_steps, aI e_stepsBack, aI e_stuck, aI e_stoodFor, aI e_stepsHere, aR 18, aR 22], oC 4 [aI u_nodes, aI u_numberings, aR 19, aR 20, aI u_size, aL u_form, aI u_symmetries, aR 21], c19, c20, c21, c22, c23, c24, c25] (fun rv w' => AW X 16 [some (aR 17), some (aI l1), none, none] (rv.toList ++ []) w' bc bs)) :
    AW X 0 [some (aR 17), some (aI l1), none, none] [] [c0, oC 1 [aI m_nodes, aI m_states, aI m_kinds, aI m_rules, aR 2, aR 3, aR 4, aR 5, aR 6, aR 7, aR 8, aL m_badPairs], c2, c3, c4, c5, c6, c7, c8, oC 2 [aI s_size, aR 10, aR 11, aR 12, aR 13, aR 14, aR 15, aR 16], jC room s_forms, c11, c12, c13, iC room s_steps, c15, c16, oC 3 [aR 1, aR 9, aI e_ending, aI e_gone, aI e_steps, aI e_stepsBack, aI e_stuck, aI e_stoodFor, aI e_stepsHere, aR 18, aR 22], oC 4 [aI u_nodes, aI u_numberings, aR 19, aR 20, aI u_size, aL u_form, aI u_symmetries, aR 21], c19, c20, c21, c22, c23, c24, c25] bc bs := by
  refine aw_aload_n K d_Ex_goThrough_0 rfl rfl ?_
  refine aw_getf K fd_Ex_51 d_Ex_goThrough_1 rfl rfl rfl ?_
  refine aw_aload_n K d_Ex_goThrough_4 rfl rfl ?_
  refine aw_getf K fd_Ex_37 d_Ex_goThrough_5 rfl rfl rfl ?_
  refine aw_getf K fd_Ex_91 d_Ex_goThrough_8 rfl rfl rfl ?_
  refine aw_iload_n K d_Ex_goThrough_11 rfl rfl ?_
  refine aw_lald K d_Ex_goThrough_12 rfl rfl h.1 ?_
  replace h := h.2
  exact aw_callV K c_Dr_load_18 cb_Ex_72 ci_Dr_load cs_Dr_load hdd_Dr_load_18 (k := 18) rfl rfl d_Ex_goThrough_13 rfl (av := [aL (s_forms l1.toNatClampNeg)]) rfl (Nat.le_of_ble_eq_true rfl) h (fun rv w' hF => hF)
set_option maxRecDepth 20000 in
theorem x_Ex_goThrough_16 {X : am_X} {dd bc bs : Nat} (K : am_ok X b_Ex_goThrough R_Ex 4 dd) {post : Option am_V → List am_C → Prop} (hr : am_rt X none post) {l1 m_nodes m_states m_kinds m_rules s_size e_ending e_gone e_steps e_stepsBack e_stuck e_stoodFor e_stepsHere u_nodes u_numberings u_size u_symmetries : Int32} {m_badPairs u_form : Int64} {s_steps : Nat → Int32} {s_forms : Nat → Int64} {room : Nat} {c0 c2 c3 c4 c5 c6 c7 c8 c11 c12 c13 c15 c16 c19 c20 c21 c22 c23 c24 c25 : am_C}
    (h : AW X 23 [some (aR 17), some (aI l1), some (aI 0), none] [] [c0, oC 1 [aI m_nodes, aI m_states, aI m_kinds, aI m_rules, aR 2, aR 3, aR 4, aR 5, aR 6, aR 7, aR 8, aL m_badPairs], c2, c3, c4, c5, c6, c7, c8, oC 2 [aI s_size, aR 10, aR 11, aR 12, aR 13, aR 14, aR 15, aR 16], jC room s_forms, c11, c12, c13, iC room s_steps, c15, c16, oC 3 [aR 1, aR 9, aI e_ending, aI e_gone, aI e_steps, aI e_stepsBack, aI e_stuck, aI e_stoodFor, aI 0, aR 18, aR 22], oC 4 [aI u_nodes, aI u_numberings, aR 19, aR 20, aI u_size, aL u_form, aI u_symmetries, aR 21], c19, c20, c21, c22, c23, c24, c25] bc bs) :
    AW X 16 [some (aR 17), some (aI l1), none, none] [] [c0, oC 1 [aI m_nodes, aI m_states, aI m_kinds, aI m_rules, aR 2, aR 3, aR 4, aR 5, aR 6, aR 7, aR 8, aL m_badPairs], c2, c3, c4, c5, c6, c7, c8, oC 2 [aI s_size, aR 10, aR 11, aR 12, aR 13, aR 14, aR 15, aR 16], jC room s_forms, c11, c12, c13, iC room s_steps, c15, c16, oC 3 [aR 1, aR 9, aI e_ending, aI e_gone, aI e_steps, aI e_stepsBack, aI e_stuck, aI e_stoodFor, aI e_stepsHere, aR 18, aR 22], oC 4 [aI u_nodes, aI u_numberings, aR 19, aR 20, aI u_size, aL u_form, aI u_symmetries, aR 21], c19, c20, c21, c22, c23, c24, c25] bc bs := by
  refine aw_aload_n K d_Ex_goThrough_16 rfl rfl ?_
  refine aw_iconst K d_Ex_goThrough_17 rfl (v := 0) (by decide) ?_
  refine aw_putf K fp_Ex_30 d_Ex_goThrough_18 rfl rfl (Nat.le_of_ble_eq_true rfl) (am_fit_i _) (w' := [c0, oC 1 [aI m_nodes, aI m_states, aI m_kinds, aI m_rules, aR 2, aR 3, aR 4, aR 5, aR 6, aR 7, aR 8, aL m_badPairs], c2, c3, c4, c5, c6, c7, c8, oC 2 [aI s_size, aR 10, aR 11, aR 12, aR 13, aR 14, aR 15, aR 16], jC room s_forms, c11, c12, c13, iC room s_steps, c15, c16, oC 3 [aR 1, aR 9, aI e_ending, aI e_gone, aI e_steps, aI e_stepsBack, aI e_stuck, aI e_stoodFor, aI 0, aR 18, aR 22], oC 4 [aI u_nodes, aI u_numberings, aR 19, aR 20, aI u_size, aL u_form, aI u_symmetries, aR 21], c19, c20, c21, c22, c23, c24, c25]) rfl ?_
  refine aw_iconst K d_Ex_goThrough_21 rfl (v := 0) (by decide) ?_
  refine aw_istore_n K d_Ex_goThrough_22 rfl (by decide) (lv' := [some (aR 17), some (aI l1), some (aI 0), none]) rfl ?_
  exact h
set_option maxRecDepth 20000 in
theorem x_Ex_goThrough_23 {X : am_X} {dd bc bs : Nat} (K : am_ok X b_Ex_goThrough R_Ex 4 dd) {post : Option am_V → List am_C → Prop} (hr : am_rt X none post) {l1 l2 m_nodes m_states m_kinds m_rules s_size e_ending e_gone e_steps e_stepsBack e_stuck e_stoodFor e_stepsHere u_nodes u_numberings u_size u_symmetries : Int32} {m_badPairs u_form : Int64} {s_steps : Nat → Int32} {s_forms : Nat → Int64} {room : Nat} {c0 c2 c3 c4 c5 c6 c7 c8 c11 c12 c13 c15 c16 c19 c20 c21 c22 c23 c24 c25 : am_C}
    (h : (m_nodes ≤ l2 → vp_in l1 room ∧ (¬ e_stepsHere = 0 → post none [c0, oC 1 [aI m_nodes, aI m_states, aI m_kinds, aI m_rules, aR 2, aR 3, aR 4, aR 5, aR 6, aR 7, aR 8, aL m_badPairs], c2, c3, c4, c5, c6, c7, c8, oC 2 [aI s_size, aR 10, aR 11, aR 12, aR 13, aR 14, aR 15, aR 16], jC room s_forms, c11, c12, c13, iC room (upd s_steps l1.toNatClampNeg e_stepsHere), c15, c16, oC 3 [aR 1, aR 9, aI e_ending, aI (e_gone + (1 : Int32)), aI e_steps, aI e_stepsBack, aI e_stuck, aI e_stoodFor, aI e_stepsHere, aR 18, aR 22], oC 4 [aI u_nodes, aI u_numberings, aR 19, aR 20, aI u_size, aL u_form, aI u_symmetries, aR 21], c19, c20, c21, c22, c23, c24, c25]) ∧ (e_stepsHere = 0 → post none [c0, oC 1 [aI m_nodes, aI m_states, aI m_kinds, aI m_rules, aR 2, aR 3, aR 4, aR 5, aR 6, aR 7, aR 8, aL m_badPairs], c2, c3, c4, c5, c6, c7, c8, oC 2 [aI s_size, aR 10, aR 11, aR 12, aR 13, aR 14, aR 15, aR 16], jC room s_forms, c11, c12, c13, iC room (upd s_steps l1.toNatClampNeg e_stepsHere), c15, c16, oC 3 [aR 1, aR 9, aI e_ending, aI (e_gone + (1 : Int32)), aI e_steps, aI e_stepsBack, aI (e_stuck + (1 : Int32)), aI e_stoodFor, aI e_stepsHere, aR 18, aR 22], oC 4 [aI u_nodes, aI u_numberings, aR 19, aR 20, aI u_size, aL u_form, aI u_symmetries, aR 21], c19, c20, c21, c22, c23, c24, c25])) ∧ (¬ m_nodes ≤ l2 → AW X 36 [some (aR 17), some (aI l1), some (aI l2), some (aI 0)] [] [c0, oC 1 [aI m_nodes, aI m_states, aI m_kinds, aI m_rules, aR 2, aR 3, aR 4, aR 5, aR 6, aR 7, aR 8, aL m_badPairs], c2, c3, c4, c5, c6, c7, c8, oC 2 [aI s_size, aR 10, aR 11, aR 12, aR 13, aR 14, aR 15, aR 16], jC room s_forms, c11, c12, c13, iC room s_steps, c15, c16, oC 3 [aR 1, aR 9, aI e_ending, aI e_gone, aI e_steps, aI e_stepsBack, aI e_stuck, aI e_stoodFor, aI e_stepsHere, aR 18, aR 22], oC 4 [aI u_nodes, aI u_numberings, aR 19, aR 20, aI u_size, aL u_form, aI u_symmetries, aR 21], c19, c20, c21, c22, c23, c24, c25] bc bs)) :
    AW X 23 [some (aR 17), some (aI l1), some (aI l2), none] [] [c0, oC 1 [aI m_nodes, aI m_states, aI m_kinds, aI m_rules, aR 2, aR 3, aR 4, aR 5, aR 6, aR 7, aR 8, aL m_badPairs], c2, c3, c4, c5, c6, c7, c8, oC 2 [aI s_size, aR 10, aR 11, aR 12, aR 13, aR 14, aR 15, aR 16], jC room s_forms, c11, c12, c13, iC room s_steps, c15, c16, oC 3 [aR 1, aR 9, aI e_ending, aI e_gone, aI e_steps, aI e_stepsBack, aI e_stuck, aI e_stoodFor, aI e_stepsHere, aR 18, aR 22], oC 4 [aI u_nodes, aI u_numberings, aR 19, aR 20, aI u_size, aL u_form, aI u_symmetries, aR 21], c19, c20, c21, c22, c23, c24, c25] bc bs := by
  refine aw_iload_n K d_Ex_goThrough_23 rfl rfl ?_
  refine aw_aload_n K d_Ex_goThrough_24 rfl rfl ?_
  refine aw_getf K fd_Ex_33 d_Ex_goThrough_25 rfl rfl rfl ?_
  refine aw_getf K fd_Ex_43 d_Ex_goThrough_28 rfl rfl rfl ?_
  refine aw_icmp_ge K d_Ex_goThrough_31 (t := 73) (by decide) rfl (fun q => ?_) (fun q => ?_)
  · replace h := h.1 q
    refine aw_aload_n K d_Ex_goThrough_73 rfl rfl ?_
    refine aw_getf K fd_Ex_37 d_Ex_goThrough_74 rfl rfl rfl ?_
    refine aw_getf K fd_Ex_102 d_Ex_goThrough_77 rfl rfl rfl ?_
    refine aw_iload_n K d_Ex_goThrough_80 rfl rfl ?_
    refine aw_aload_n K d_Ex_goThrough_81 rfl rfl ?_
    refine aw_getf K fd_Ex_30 d_Ex_goThrough_82 rfl rfl rfl ?_
    refine aw_iast K d_Ex_goThrough_85 rfl rfl h.1 (w' := [c0, oC 1 [aI m_nodes, aI m_states, aI m_kinds, aI m_rules, aR 2, aR 3, aR 4, aR 5, aR 6, aR 7, aR 8, aL m_badPairs], c2, c3, c4, c5, c6, c7, c8, oC 2 [aI s_size, aR 10, aR 11, aR 12, aR 13, aR 14, aR 15, aR 16], jC room s_forms, c11, c12, c13, iC room (upd s_steps l1.toNatClampNeg e_stepsHere), c15, c16, oC 3 [aR 1, aR 9, aI e_ending, aI e_gone, aI e_steps, aI e_stepsBack, aI e_stuck, aI e_stoodFor, aI e_stepsHere, aR 18, aR 22], oC 4 [aI u_nodes, aI u_numberings, aR 19, aR 20, aI u_size, aL u_form, aI u_symmetries, aR 21], c19, c20, c21, c22, c23, c24, c25]) rfl ?_
    replace h := h.2
    refine aw_aload_n K d_Ex_goThrough_86 rfl rfl ?_
    refine aw_dup K d_Ex_goThrough_87 rfl (fun _ e => nomatch e) ?_
    refine aw_getf K fd_Ex_15 d_Ex_goThrough_88 rfl rfl rfl ?_
    refine aw_iconst K d_Ex_goThrough_91 rfl (v := 1) (by decide) ?_
    refine aw_iadd K d_Ex_goThrough_92 rfl ?_
    refine aw_putf K fp_Ex_15 d_Ex_goThrough_93 rfl rfl (Nat.le_of_ble_eq_true rfl) (am_fit_i _) (w' := [c0, oC 1 [aI m_nodes, aI m_states, aI m_kinds, aI m_rules, aR 2, aR 3, aR 4, aR 5, aR 6, aR 7, aR 8, aL m_badPairs], c2, c3, c4, c5, c6, c7, c8, oC 2 [aI s_size, aR 10, aR 11, aR 12, aR 13, aR 14, aR 15, aR 16], jC room s_forms, c11, c12, c13, iC room (upd s_steps l1.toNatClampNeg e_stepsHere), c15, c16, oC 3 [aR 1, aR 9, aI e_ending, aI (e_gone + (1 : Int32)), aI e_steps, aI e_stepsBack, aI e_stuck, aI e_stoodFor, aI e_stepsHere, aR 18, aR 22], oC 4 [aI u_nodes, aI u_numberings, aR 19, aR 20, aI u_size, aL u_form, aI u_symmetries, aR 21], c19, c20, c21, c22, c23, c24, c25]) rfl ?_
    refine aw_aload_n K d_Ex_goThrough_96 rfl rfl ?_
    refine aw_getf K fd_Ex_30 d_Ex_goThrough_97 rfl rfl rfl ?_
    refine aw_if_ne K d_Ex_goThrough_100 (t := 113) (by decide) rfl (fun q => ?_) (fun q => ?_)
    · replace h := h.1 q
      exact aw_vret K hr d_Ex_goThrough_113 h
    · replace h := h.2 q
      refine aw_aload_n K d_Ex_goThrough_103 rfl rfl ?_
      refine aw_dup K d_Ex_goThrough_104 rfl (fun _ e => nomatch e) ?_
      refine aw_getf K fd_Ex_24 d_Ex_goThrough_105 rfl rfl rfl ?_
      refine aw_iconst K d_Ex_goThrough_108 rfl (v := 1) (by decide) ?_
      refine aw_iadd K d_Ex_goThrough_109 rfl ?_
      refine aw_putf K fp_Ex_24 d_Ex_goThrough_110 rfl rfl (Nat.le_of_ble_eq_true rfl) (am_fit_i _) (w' := [c0, oC 1 [aI m_nodes, aI m_states, aI m_kinds, aI m_rules, aR 2, aR 3, aR 4, aR 5, aR 6, aR 7, aR 8, aL m_badPairs], c2, c3, c4, c5, c6, c7, c8, oC 2 [aI s_size, aR 10, aR 11, aR 12, aR 13, aR 14, aR 15, aR 16], jC room s_forms, c11, c12, c13, iC room (upd s_steps l1.toNatClampNeg e_stepsHere), c15, c16, oC 3 [aR 1, aR 9, aI e_ending, aI (e_gone + (1 : Int32)), aI e_steps, aI e_stepsBack, aI (e_stuck + (1 : Int32)), aI e_stoodFor, aI e_stepsHere, aR 18, aR 22], oC 4 [aI u_nodes, aI u_numberings, aR 19, aR 20, aI u_size, aL u_form, aI u_symmetries, aR 21], c19, c20, c21, c22, c23, c24, c25]) rfl ?_
      exact aw_vret K hr d_Ex_goThrough_113 h
  · replace h := h.2 q
    refine aw_iconst K d_Ex_goThrough_34 rfl (v := 0) (by decide) ?_
    refine aw_istore_n K d_Ex_goThrough_35 rfl (by decide) (lv' := [some (aR 17), some (aI l1), some (aI l2), some (aI 0)]) rfl ?_
    exact h
set_option maxRecDepth 20000 in
theorem x_Ex_goThrough_36 {X : am_X} {dd bc bs : Nat} (K : am_ok X b_Ex_goThrough R_Ex 4 dd) {post : Option am_V → List am_C → Prop} (hr : am_rt X none post) {sp_Ex_tryRule : am_S} {dd_Ex_tryRule : Nat} (c_Ex_tryRule : Con y_Ex_tryRule b_Ex_tryRule 7 none dd_Ex_tryRule 0 0 false sp_Ex_tryRule) (hdd_Ex_tryRule : dd_Ex_tryRule + 1 ≤ dd) {l1 l2 l3 m_nodes m_states m_kinds m_rules s_size e_ending e_gone e_steps e_stepsBack e_stuck e_stoodFor e_stepsHere u_nodes u_numberings u_size u_symmetries : Int32} {m_badPairs u_form : Int64} {s_steps : Nat → Int32} {s_forms : Nat → Int64} {room : Nat} {c0 c2 c3 c4 c5 c6 c7 c8 c11 c12 c13 c15 c16 c19 c20 c21 c22 c23 c24 c25 : am_C}
    (h : (m_rules ≤ l3 → AW X 23 [some (aR 17), some (aI l1), some (aI (l2 + 1)), none] [] [c0, oC 1 [aI m_nodes, aI m_states, aI m_kinds, aI m_rules, aR 2, aR 3, aR 4, aR 5, aR 6, aR 7, aR 8, aL m_badPairs], c2, c3, c4, c5, c6, c7, c8, oC 2 [aI s_size, aR 10, aR 11, aR 12, aR 13, aR 14, aR 15, aR 16], jC room s_forms, c11, c12, c13, iC room s_steps, c15, c16, oC 3 [aR 1, aR 9, aI e_ending, aI e_gone, aI e_steps, aI e_stepsBack, aI e_stuck, aI e_stoodFor, aI e_stepsHere, aR 18, aR 22], oC 4 [aI u_nodes, aI u_numberings, aR 19, aR 20, aI u_size, aL u_form, aI u_symmetries, aR 21], c19, c20, c21, c22, c23, c24, c25] bc bs) ∧ (¬ m_rules ≤ l3 → sp_Ex_tryRule [aR 17, aI l2, aI l3] [c0, oC 1 [aI m_nodes, aI m_states, aI m_kinds, aI m_rules, aR 2, aR 3, aR 4, aR 5, aR 6, aR 7, aR 8, aL m_badPairs], c2, c3, c4, c5, c6, c7, c8, oC 2 [aI s_size, aR 10, aR 11, aR 12, aR 13, aR 14, aR 15, aR 16], jC room s_forms, c11, c12, c13, iC room s_steps, c15, c16, oC 3 [aR 1, aR 9, aI e_ending, aI e_gone, aI e_steps, aI e_stepsBack, aI e_stuck, aI e_stoodFor, aI e_stepsHere, aR 18, aR 22], oC 4 [aI u_nodes, aI u_numberings, aR 19, aR 20, aI u_size, aL u_form, aI u_symmetries, aR 21], c19, c20, c21, c22, c23, c24, c25] (fun rv w' => AW X 53 [some (aR 17), some (aI l1), some (aI l2), some (aI l3)] (rv.toList ++ []) w' bc bs))) :
    AW X 36 [some (aR 17), some (aI l1), some (aI l2), some (aI l3)] [] [c0, oC 1 [aI m_nodes, aI m_states, aI m_kinds, aI m_rules, aR 2, aR 3, aR 4, aR 5, aR 6, aR 7, aR 8, aL m_badPairs], c2, c3, c4, c5, c6, c7, c8, oC 2 [aI s_size, aR 10, aR 11, aR 12, aR 13, aR 14, aR 15, aR 16], jC room s_forms, c11, c12, c13, iC room s_steps, c15, c16, oC 3 [aR 1, aR 9, aI e_ending, aI e_gone, aI e_steps, aI e_stepsBack, aI e_stuck, aI e_stoodFor, aI e_stepsHere, aR 18, aR 22], oC 4 [aI u_nodes, aI u_numberings, aR 19, aR 20, aI u_size, aL u_form, aI u_symmetries, aR 21], c19, c20, c21, c22, c23, c24, c25] bc bs := by
  refine aw_iload_n K d_Ex_goThrough_36 rfl rfl ?_
  refine aw_aload_n K d_Ex_goThrough_37 rfl rfl ?_
  refine aw_getf K fd_Ex_33 d_Ex_goThrough_38 rfl rfl rfl ?_
  refine aw_getf K fd_Ex_95 d_Ex_goThrough_41 rfl rfl rfl ?_
  refine aw_icmp_ge K d_Ex_goThrough_44 (t := 67) (by decide) rfl (fun q => ?_) (fun q => ?_)
  · replace h := h.1 q
    refine aw_iinc K d_Ex_goThrough_67 rfl rfl (v := l2 + 1) rfl (by decide) (lv' := [some (aR 17), some (aI l1), some (aI (l2 + 1)), some (aI l3)]) rfl ?_
    refine aw_goto K d_Ex_goThrough_70 (n := 23) (by decide) ?_
    refine aw_less [3] rfl ?_
    exact h
  · replace h := h.2 q
    refine aw_aload_n K d_Ex_goThrough_47 rfl rfl ?_
    refine aw_iload_n K d_Ex_goThrough_48 rfl rfl ?_
    refine aw_iload_n K d_Ex_goThrough_49 rfl rfl ?_
    exact aw_callV K c_Ex_tryRule cb_Ex_98 ci_Ex_tryRule cs_Ex_tryRule hdd_Ex_tryRule (k := 17) rfl rfl d_Ex_goThrough_50 rfl (av := [aI l2, aI l3]) rfl (Nat.le_of_ble_eq_true rfl) h (fun rv w' hF => hF)
set_option maxRecDepth 20000 in
theorem x_Ex_goThrough_53 {X : am_X} {dd bc bs : Nat} (K : am_ok X b_Ex_goThrough R_Ex 4 dd) {post : Option am_V → List am_C → Prop} (hr : am_rt X none post) {l1 l2 l3 m_nodes m_states m_kinds m_rules s_size e_ending e_gone e_steps e_stepsBack e_stuck e_stoodFor e_stepsHere u_nodes u_numberings u_size u_symmetries : Int32} {m_badPairs u_form : Int64} {s_steps : Nat → Int32} {s_forms : Nat → Int64} {room : Nat} {c0 c2 c3 c4 c5 c6 c7 c8 c11 c12 c13 c15 c16 c19 c20 c21 c22 c23 c24 c25 : am_C}
    (h : (e_ending = 0 → AW X 36 [some (aR 17), some (aI l1), some (aI l2), some (aI (l3 + 1))] [] [c0, oC 1 [aI m_nodes, aI m_states, aI m_kinds, aI m_rules, aR 2, aR 3, aR 4, aR 5, aR 6, aR 7, aR 8, aL m_badPairs], c2, c3, c4, c5, c6, c7, c8, oC 2 [aI s_size, aR 10, aR 11, aR 12, aR 13, aR 14, aR 15, aR 16], jC room s_forms, c11, c12, c13, iC room s_steps, c15, c16, oC 3 [aR 1, aR 9, aI e_ending, aI e_gone, aI e_steps, aI e_stepsBack, aI e_stuck, aI e_stoodFor, aI e_stepsHere, aR 18, aR 22], oC 4 [aI u_nodes, aI u_numberings, aR 19, aR 20, aI u_size, aL u_form, aI u_symmetries, aR 21], c19, c20, c21, c22, c23, c24, c25] bc bs) ∧ (¬ e_ending = 0 → post none [c0, oC 1 [aI m_nodes, aI m_states, aI m_kinds, aI m_rules, aR 2, aR 3, aR 4, aR 5, aR 6, aR 7, aR 8, aL m_badPairs], c2, c3, c4, c5, c6, c7, c8, oC 2 [aI s_size, aR 10, aR 11, aR 12, aR 13, aR 14, aR 15, aR 16], jC room s_forms, c11, c12, c13, iC room s_steps, c15, c16, oC 3 [aR 1, aR 9, aI e_ending, aI e_gone, aI e_steps, aI e_stepsBack, aI e_stuck, aI e_stoodFor, aI e_stepsHere, aR 18, aR 22], oC 4 [aI u_nodes, aI u_numberings, aR 19, aR 20, aI u_size, aL u_form, aI u_symmetries, aR 21], c19, c20, c21, c22, c23, c24, c25])) :
    AW X 53 [some (aR 17), some (aI l1), some (aI l2), some (aI l3)] [] [c0, oC 1 [aI m_nodes, aI m_states, aI m_kinds, aI m_rules, aR 2, aR 3, aR 4, aR 5, aR 6, aR 7, aR 8, aL m_badPairs], c2, c3, c4, c5, c6, c7, c8, oC 2 [aI s_size, aR 10, aR 11, aR 12, aR 13, aR 14, aR 15, aR 16], jC room s_forms, c11, c12, c13, iC room s_steps, c15, c16, oC 3 [aR 1, aR 9, aI e_ending, aI e_gone, aI e_steps, aI e_stepsBack, aI e_stuck, aI e_stoodFor, aI e_stepsHere, aR 18, aR 22], oC 4 [aI u_nodes, aI u_numberings, aR 19, aR 20, aI u_size, aL u_form, aI u_symmetries, aR 21], c19, c20, c21, c22, c23, c24, c25] bc bs := by
  refine aw_aload_n K d_Ex_goThrough_53 rfl rfl ?_
  refine aw_getf K fd_Ex_9 d_Ex_goThrough_54 rfl rfl rfl ?_
  refine aw_if_eq K d_Ex_goThrough_57 (t := 61) (by decide) rfl (fun q => ?_) (fun q => ?_)
  · replace h := h.1 q
    refine aw_iinc K d_Ex_goThrough_61 rfl rfl (v := l3 + 1) rfl (by decide) (lv' := [some (aR 17), some (aI l1), some (aI l2), some (aI (l3 + 1))]) rfl ?_
    refine aw_goto K d_Ex_goThrough_64 (n := 36) (by decide) ?_
    exact h
  · replace h := h.2 q
    exact aw_vret K hr d_Ex_goThrough_60 h
set_option maxRecDepth 20000 in
theorem x_Ex_tryRule_0 {X : am_X} {dd bc bs : Nat} (K : am_ok X b_Ex_tryRule R_Ex 7 dd) {post : Option am_V → List am_C → Prop} (hr : am_rt X none post) {sp_Ex_makeStep : am_S} {dd_Ex_makeStep : Nat} (c_Ex_makeStep : Con y_Ex_makeStep b_Ex_makeStep 5 none dd_Ex_makeStep 0 0 false sp_Ex_makeStep) (hdd_Ex_makeStep : dd_Ex_makeStep + 1 ≤ dd) {l1 l2 m_nodes m_states m_kinds m_rules e_ending e_gone e_steps e_stepsBack e_stuck e_stoodFor e_stepsHere u_nodes u_numberings u_size u_symmetries : Int32} {m_badPairs u_form : Int64} {m_starts m_events m_growths u_states u_codes : Nat → Int32} {c0 c4 c5 c6 c7 c9 c10 c11 c12 c13 c14 c15 c16 c21 c22 c23 c24 c25 : am_C}
    (h : vp_in l1 4 ∧ vp_in l2 40 ∧ (¬ (u_states l1.toNatClampNeg) = (m_starts l2.toNatClampNeg) → post none [c0, oC 1 [aI m_nodes, aI m_states, aI m_kinds, aI m_rules, aR 2, aR 3, aR 4, aR 5, aR 6, aR 7, aR 8, aL m_badPairs], iC 40 m_starts, iC 40 m_events, c4, c5, c6, c7, iC 40 m_growths, c9, c10, c11, c12, c13, c14, c15, c16, oC 3 [aR 1, aR 9, aI e_ending, aI e_gone, aI e_steps, aI e_stepsBack, aI e_stuck, aI e_stoodFor, aI e_stepsHere, aR 18, aR 22], oC 4 [aI u_nodes, aI u_numberings, aR 19, aR 20, aI u_size, aL u_form, aI u_symmetries, aR 21], iC 4 u_states, iC 7 u_codes, c21, c22, c23, c24, c25]) ∧ ((u_states l1.toNatClampNeg) = (m_starts l2.toNatClampNeg) → vp_in l2 40 ∧ ((u_size + (m_growths l2.toNatClampNeg)) ≤ 7 → vp_in l2 40 ∧ (¬ (m_events l2.toNatClampNeg) = ((-1)) → AW X 70 [some (aR 17), some (aI l1), some (aI l2), some (aI (m_events l2.toNatClampNeg)), some (aI 0), none, none] [] [c0, oC 1 [aI m_nodes, aI m_states, aI m_kinds, aI m_rules, aR 2, aR 3, aR 4, aR 5, aR 6, aR 7, aR 8, aL m_badPairs], iC 40 m_starts, iC 40 m_events, c4, c5, c6, c7, iC 40 m_growths, c9, c10, c11, c12, c13, c14, c15, c16, oC 3 [aR 1, aR 9, aI e_ending, aI e_gone, aI e_steps, aI e_stepsBack, aI e_stuck, aI e_stoodFor, aI e_stepsHere, aR 18, aR 22], oC 4 [aI u_nodes, aI u_numberings, aR 19, aR 20, aI u_size, aL u_form, aI u_symmetries, aR 21], iC 4 u_states, iC 7 u_codes, c21, c22, c23, c24, c25] bc bs) ∧ ((m_events l2.toNatClampNeg) = ((-1)) → sp_Ex_makeStep [aR 17, aI l1, aI l2, aI ((-1))] [c0, oC 1 [aI m_nodes, aI m_states, aI m_kinds, aI m_rules, aR 2, aR 3, aR 4, aR 5, aR 6, aR 7, aR 8, aL m_badPairs], iC 40 m_starts, iC 40 m_events, c4, c5, c6, c7, iC 40 m_growths, c9, c10, c11, c12, c13, c14, c15, c16, oC 3 [aR 1, aR 9, aI e_ending, aI e_gone, aI e_steps, aI e_stepsBack, aI e_stuck, aI e_stoodFor, aI e_stepsHere, aR 18, aR 22], oC 4 [aI u_nodes, aI u_numberings, aR 19, aR 20, aI u_size, aL u_form, aI u_symmetries, aR 21], iC 4 u_states, iC 7 u_codes, c21, c22, c23, c24, c25] (fun rv w' => AW X 66 [none, none, none, none, none, none, none] (rv.toList ++ []) w' bc bs))) ∧ (¬ (u_size + (m_growths l2.toNatClampNeg)) ≤ 7 → post none [c0, oC 1 [aI m_nodes, aI m_states, aI m_kinds, aI m_rules, aR 2, aR 3, aR 4, aR 5, aR 6, aR 7, aR 8, aL m_badPairs], iC 40 m_starts, iC 40 m_events, c4, c5, c6, c7, iC 40 m_growths, c9, c10, c11, c12, c13, c14, c15, c16, oC 3 [aR 1, aR 9, aI e_ending, aI e_gone, aI e_steps, aI e_stepsBack, aI e_stuck, aI e_stoodFor, aI e_stepsHere, aR 18, aR 22], oC 4 [aI u_nodes, aI u_numberings, aR 19, aR 20, aI u_size, aL u_form, aI u_symmetries, aR 21], iC 4 u_states, iC 7 u_codes, c21, c22, c23, c24, c25]))) :
    AW X 0 [some (aR 17), some (aI l1), some (aI l2), none, none, none, none] [] [c0, oC 1 [aI m_nodes, aI m_states, aI m_kinds, aI m_rules, aR 2, aR 3, aR 4, aR 5, aR 6, aR 7, aR 8, aL m_badPairs], iC 40 m_starts, iC 40 m_events, c4, c5, c6, c7, iC 40 m_growths, c9, c10, c11, c12, c13, c14, c15, c16, oC 3 [aR 1, aR 9, aI e_ending, aI e_gone, aI e_steps, aI e_stepsBack, aI e_stuck, aI e_stoodFor, aI e_stepsHere, aR 18, aR 22], oC 4 [aI u_nodes, aI u_numberings, aR 19, aR 20, aI u_size, aL u_form, aI u_symmetries, aR 21], iC 4 u_states, iC 7 u_codes, c21, c22, c23, c24, c25] bc bs := by
  refine aw_aload_n K d_Ex_tryRule_0 rfl rfl ?_
  refine aw_getf K fd_Ex_51 d_Ex_tryRule_1 rfl rfl rfl ?_
  refine aw_getf K fd_Ex_105 d_Ex_tryRule_4 rfl rfl rfl ?_
  refine aw_iload_n K d_Ex_tryRule_7 rfl rfl ?_
  refine aw_iald K d_Ex_tryRule_8 rfl rfl h.1 ?_
  replace h := h.2
  refine aw_aload_n K d_Ex_tryRule_9 rfl rfl ?_
  refine aw_getf K fd_Ex_33 d_Ex_tryRule_10 rfl rfl rfl ?_
  refine aw_getf K fd_Ex_108 d_Ex_tryRule_13 rfl rfl rfl ?_
  refine aw_iload_n K d_Ex_tryRule_16 rfl rfl ?_
  refine aw_iald K d_Ex_tryRule_17 rfl rfl h.1 ?_
  replace h := h.2
  refine aw_icmp_ne K d_Ex_tryRule_18 (t := 43) (by decide) rfl (fun q => ?_) (fun q => ?_)
  · replace h := h.1 q
    exact aw_vret K hr d_Ex_tryRule_43 h
  · replace h := h.2 q
    refine aw_aload_n K d_Ex_tryRule_21 rfl rfl ?_
    refine aw_getf K fd_Ex_51 d_Ex_tryRule_22 rfl rfl rfl ?_
    refine aw_getf K fd_Ex_111 d_Ex_tryRule_25 rfl rfl rfl ?_
    refine aw_aload_n K d_Ex_tryRule_28 rfl rfl ?_
    refine aw_getf K fd_Ex_33 d_Ex_tryRule_29 rfl rfl rfl ?_
    refine aw_getf K fd_Ex_112 d_Ex_tryRule_32 rfl rfl rfl ?_
    refine aw_iload_n K d_Ex_tryRule_35 rfl rfl ?_
    refine aw_iald K d_Ex_tryRule_36 rfl rfl h.1 ?_
    replace h := h.2
    refine aw_iadd K d_Ex_tryRule_37 rfl ?_
    refine aw_bipush K d_Ex_tryRule_38 rfl (v := 7) (by decide) ?_
    refine aw_icmp_le K d_Ex_tryRule_40 (t := 44) (by decide) rfl (fun q => ?_) (fun q => ?_)
    · replace h := h.1 q
      refine aw_aload_n K d_Ex_tryRule_44 rfl rfl ?_
      refine aw_getf K fd_Ex_33 d_Ex_tryRule_45 rfl rfl rfl ?_
      refine aw_getf K fd_Ex_115 d_Ex_tryRule_48 rfl rfl rfl ?_
      refine aw_iload_n K d_Ex_tryRule_51 rfl rfl ?_
      refine aw_iald K d_Ex_tryRule_52 rfl rfl h.1 ?_
      replace h := h.2
      refine aw_istore_n K d_Ex_tryRule_53 rfl (by decide) (lv' := [some (aR 17), some (aI l1), some (aI l2), some (aI (m_events l2.toNatClampNeg)), none, none, none]) rfl ?_
      refine aw_iload_n K d_Ex_tryRule_54 rfl rfl ?_
      refine aw_iconst K d_Ex_tryRule_55 rfl (v := (-1)) (by decide) ?_
      refine aw_icmp_ne K d_Ex_tryRule_56 (t := 67) (by decide) rfl (fun q => ?_) (fun q => ?_)
      · replace h := h.1 q
        refine aw_iconst K d_Ex_tryRule_67 rfl (v := 0) (by decide) ?_
        refine aw_istore K d_Ex_tryRule_68 rfl (by decide) (lv' := [some (aR 17), some (aI l1), some (aI l2), some (aI (m_events l2.toNatClampNeg)), some (aI 0), none, none]) rfl ?_
        exact h
      · replace h := h.2 q
        refine aw_aload_n K d_Ex_tryRule_59 rfl rfl ?_
        refine aw_iload_n K d_Ex_tryRule_60 rfl rfl ?_
        refine aw_iload_n K d_Ex_tryRule_61 rfl rfl ?_
        refine aw_iconst K d_Ex_tryRule_62 rfl (v := (-1)) (by decide) ?_
        refine aw_less [0, 1, 2, 3] rfl ?_
        exact aw_callV K c_Ex_makeStep cb_Ex_118 ci_Ex_makeStep cs_Ex_makeStep hdd_Ex_makeStep (k := 17) rfl rfl d_Ex_tryRule_63 rfl (av := [aI l1, aI l2, aI ((-1))]) rfl (Nat.le_of_ble_eq_true rfl) h (fun rv w' hF => hF)
    · replace h := h.2 q
      exact aw_vret K hr d_Ex_tryRule_43 h
set_option maxRecDepth 20000 in
theorem x_Ex_tryRule_66 {X : am_X} {dd bc bs : Nat} (K : am_ok X b_Ex_tryRule R_Ex 7 dd) {post : Option am_V → List am_C → Prop} (hr : am_rt X none post) {m_nodes m_states m_kinds m_rules e_ending e_gone e_steps e_stepsBack e_stuck e_stoodFor e_stepsHere u_nodes u_numberings u_size u_symmetries : Int32} {m_badPairs u_form : Int64} {m_starts m_events m_growths u_states u_codes : Nat → Int32} {c0 c4 c5 c6 c7 c9 c10 c11 c12 c13 c14 c15 c16 c21 c22 c23 c24 c25 : am_C}
    (h : post none [c0, oC 1 [aI m_nodes, aI m_states, aI m_kinds, aI m_rules, aR 2, aR 3, aR 4, aR 5, aR 6, aR 7, aR 8, aL m_badPairs], iC 40 m_starts, iC 40 m_events, c4, c5, c6, c7, iC 40 m_growths, c9, c10, c11, c12, c13, c14, c15, c16, oC 3 [aR 1, aR 9, aI e_ending, aI e_gone, aI e_steps, aI e_stepsBack, aI e_stuck, aI e_stoodFor, aI e_stepsHere, aR 18, aR 22], oC 4 [aI u_nodes, aI u_numberings, aR 19, aR 20, aI u_size, aL u_form, aI u_symmetries, aR 21], iC 4 u_states, iC 7 u_codes, c21, c22, c23, c24, c25]) :
    AW X 66 [none, none, none, none, none, none, none] [] [c0, oC 1 [aI m_nodes, aI m_states, aI m_kinds, aI m_rules, aR 2, aR 3, aR 4, aR 5, aR 6, aR 7, aR 8, aL m_badPairs], iC 40 m_starts, iC 40 m_events, c4, c5, c6, c7, iC 40 m_growths, c9, c10, c11, c12, c13, c14, c15, c16, oC 3 [aR 1, aR 9, aI e_ending, aI e_gone, aI e_steps, aI e_stepsBack, aI e_stuck, aI e_stoodFor, aI e_stepsHere, aR 18, aR 22], oC 4 [aI u_nodes, aI u_numberings, aR 19, aR 20, aI u_size, aL u_form, aI u_symmetries, aR 21], iC 4 u_states, iC 7 u_codes, c21, c22, c23, c24, c25] bc bs := by
  exact aw_vret K hr d_Ex_tryRule_66 h
set_option maxRecDepth 20000 in
theorem x_Ex_tryRule_70 {X : am_X} {dd bc bs : Nat} (K : am_ok X b_Ex_tryRule R_Ex 7 dd) {post : Option am_V → List am_C → Prop} (hr : am_rt X none post) {l1 l2 l3 l4 m_nodes m_states m_kinds m_rules e_ending e_gone e_steps e_stepsBack e_stuck e_stoodFor e_stepsHere u_nodes u_numberings u_size u_symmetries : Int32} {m_badPairs u_form : Int64} {m_starts m_events m_growths u_states u_codes : Nat → Int32} {c0 c4 c5 c6 c7 c9 c10 c11 c12 c13 c14 c15 c16 c21 c22 c23 c24 c25 : am_C}
    (h : (u_size ≤ l4 → post none [c0, oC 1 [aI m_nodes, aI m_states, aI m_kinds, aI m_rules, aR 2, aR 3, aR 4, aR 5, aR 6, aR 7, aR 8, aL m_badPairs], iC 40 m_starts, iC 40 m_events, c4, c5, c6, c7, iC 40 m_growths, c9, c10, c11, c12, c13, c14, c15, c16, oC 3 [aR 1, aR 9, aI e_ending, aI e_gone, aI e_steps, aI e_stepsBack, aI e_stuck, aI e_stoodFor, aI e_stepsHere, aR 18, aR 22], oC 4 [aI u_nodes, aI u_numberings, aR 19, aR 20, aI u_size, aL u_form, aI u_symmetries, aR 21], iC 4 u_states, iC 7 u_codes, c21, c22, c23, c24, c25]) ∧ (¬ u_size ≤ l4 → (¬ e_ending = 0 → post none [c0, oC 1 [aI m_nodes, aI m_states, aI m_kinds, aI m_rules, aR 2, aR 3, aR 4, aR 5, aR 6, aR 7, aR 8, aL m_badPairs], iC 40 m_starts, iC 40 m_events, c4, c5, c6, c7, iC 40 m_growths, c9, c10, c11, c12, c13, c14, c15, c16, oC 3 [aR 1, aR 9, aI e_ending, aI e_gone, aI e_steps, aI e_stepsBack, aI e_stuck, aI e_stoodFor, aI e_stepsHere, aR 18, aR 22], oC 4 [aI u_nodes, aI u_numberings, aR 19, aR 20, aI u_size, aL u_form, aI u_symmetries, aR 21], iC 4 u_states, iC 7 u_codes, c21, c22, c23, c24, c25]) ∧ (e_ending = 0 → vp_in l4 7 ∧ (l4 ≤ 0 → AW X 127 [some (aR 17), some (aI l1), some (aI l2), some (aI l3), some (aI l4), some (aI (u_codes l4.toNatClampNeg)), none] [] [c0, oC 1 [aI m_nodes, aI m_states, aI m_kinds, aI m_rules, aR 2, aR 3, aR 4, aR 5, aR 6, aR 7, aR 8, aL m_badPairs], iC 40 m_starts, iC 40 m_events, c4, c5, c6, c7, iC 40 m_growths, c9, c10, c11, c12, c13, c14, c15, c16, oC 3 [aR 1, aR 9, aI e_ending, aI e_gone, aI e_steps, aI e_stepsBack, aI e_stuck, aI e_stoodFor, aI e_stepsHere, aR 18, aR 22], oC 4 [aI u_nodes, aI u_numberings, aR 19, aR 20, aI u_size, aL u_form, aI u_symmetries, aR 21], iC 4 u_states, iC 7 u_codes, c21, c22, c23, c24, c25] bc bs) ∧ (¬ l4 ≤ 0 → vp_in (l4 - (1 : Int32)) 7 ∧ (¬ (u_codes (l4 - (1 : Int32)).toNatClampNeg) = (u_codes l4.toNatClampNeg) → AW X 127 [some (aR 17), some (aI l1), some (aI l2), some (aI l3), some (aI l4), some (aI (u_codes l4.toNatClampNeg)), none] [] [c0, oC 1 [aI m_nodes, aI m_states, aI m_kinds, aI m_rules, aR 2, aR 3, aR 4, aR 5, aR 6, aR 7, aR 8, aL m_badPairs], iC 40 m_starts, iC 40 m_events, c4, c5, c6, c7, iC 40 m_growths, c9, c10, c11, c12, c13, c14, c15, c16, oC 3 [aR 1, aR 9, aI e_ending, aI e_gone, aI e_steps, aI e_stepsBack, aI e_stuck, aI e_stoodFor, aI e_stepsHere, aR 18, aR 22], oC 4 [aI u_nodes, aI u_numberings, aR 19, aR 20, aI u_size, aL u_form, aI u_symmetries, aR 21], iC 4 u_states, iC 7 u_codes, c21, c22, c23, c24, c25] bc bs) ∧ ((u_codes (l4 - (1 : Int32)).toNatClampNeg) = (u_codes l4.toNatClampNeg) → AW X 128 [some (aR 17), some (aI l1), some (aI l2), some (aI l3), some (aI l4), some (aI (u_codes l4.toNatClampNeg)), none] [aI 1] [c0, oC 1 [aI m_nodes, aI m_states, aI m_kinds, aI m_rules, aR 2, aR 3, aR 4, aR 5, aR 6, aR 7, aR 8, aL m_badPairs], iC 40 m_starts, iC 40 m_events, c4, c5, c6, c7, iC 40 m_growths, c9, c10, c11, c12, c13, c14, c15, c16, oC 3 [aR 1, aR 9, aI e_ending, aI e_gone, aI e_steps, aI e_stepsBack, aI e_stuck, aI e_stoodFor, aI e_stepsHere, aR 18, aR 22], oC 4 [aI u_nodes, aI u_numberings, aR 19, aR 20, aI u_size, aL u_form, aI u_symmetries, aR 21], iC 4 u_states, iC 7 u_codes, c21, c22, c23, c24, c25] bc bs))))) :
    AW X 70 [some (aR 17), some (aI l1), some (aI l2), some (aI l3), some (aI l4), none, none] [] [c0, oC 1 [aI m_nodes, aI m_states, aI m_kinds, aI m_rules, aR 2, aR 3, aR 4, aR 5, aR 6, aR 7, aR 8, aL m_badPairs], iC 40 m_starts, iC 40 m_events, c4, c5, c6, c7, iC 40 m_growths, c9, c10, c11, c12, c13, c14, c15, c16, oC 3 [aR 1, aR 9, aI e_ending, aI e_gone, aI e_steps, aI e_stepsBack, aI e_stuck, aI e_stoodFor, aI e_stepsHere, aR 18, aR 22], oC 4 [aI u_nodes, aI u_numberings, aR 19, aR 20, aI u_size, aL u_form, aI u_symmetries, aR 21], iC 4 u_states, iC 7 u_codes, c21, c22, c23, c24, c25] bc bs := by
  refine aw_iload K d_Ex_tryRule_70 rfl rfl ?_
  refine aw_aload_n K d_Ex_tryRule_72 rfl rfl ?_
  refine aw_getf K fd_Ex_51 d_Ex_tryRule_73 rfl rfl rfl ?_
  refine aw_getf K fd_Ex_111 d_Ex_tryRule_76 rfl rfl rfl ?_
  refine aw_icmp_ge K d_Ex_tryRule_79 (t := 165) (by decide) rfl (fun q => ?_) (fun q => ?_)
  · replace h := h.1 q
    exact aw_vret K hr d_Ex_tryRule_165 h
  · replace h := h.2 q
    refine aw_aload_n K d_Ex_tryRule_82 rfl rfl ?_
    refine aw_getf K fd_Ex_9 d_Ex_tryRule_83 rfl rfl rfl ?_
    refine aw_if_ne K d_Ex_tryRule_86 (t := 165) (by decide) rfl (fun q => ?_) (fun q => ?_)
    · replace h := h.1 q
      exact aw_vret K hr d_Ex_tryRule_165 h
    · replace h := h.2 q
      refine aw_aload_n K d_Ex_tryRule_89 rfl rfl ?_
      refine aw_getf K fd_Ex_51 d_Ex_tryRule_90 rfl rfl rfl ?_
      refine aw_getf K fd_Ex_121 d_Ex_tryRule_93 rfl rfl rfl ?_
      refine aw_iload K d_Ex_tryRule_96 rfl rfl ?_
      refine aw_iald K d_Ex_tryRule_98 rfl rfl h.1 ?_
      replace h := h.2
      refine aw_istore K d_Ex_tryRule_99 rfl (by decide) (lv' := [some (aR 17), some (aI l1), some (aI l2), some (aI l3), some (aI l4), some (aI (u_codes l4.toNatClampNeg)), none]) rfl ?_
      refine aw_iload K d_Ex_tryRule_101 rfl rfl ?_
      refine aw_if_le K d_Ex_tryRule_103 (t := 127) (by decide) rfl (fun q => ?_) (fun q => ?_)
      · replace h := h.1 q
        exact h
      · replace h := h.2 q
        refine aw_aload_n K d_Ex_tryRule_106 rfl rfl ?_
        refine aw_getf K fd_Ex_51 d_Ex_tryRule_107 rfl rfl rfl ?_
        refine aw_getf K fd_Ex_121 d_Ex_tryRule_110 rfl rfl rfl ?_
        refine aw_iload K d_Ex_tryRule_113 rfl rfl ?_
        refine aw_iconst K d_Ex_tryRule_115 rfl (v := 1) (by decide) ?_
        refine aw_isub K d_Ex_tryRule_116 rfl ?_
        refine aw_iald K d_Ex_tryRule_117 rfl rfl h.1 ?_
        replace h := h.2
        refine aw_iload K d_Ex_tryRule_118 rfl rfl ?_
        refine aw_icmp_ne K d_Ex_tryRule_120 (t := 127) (by decide) rfl (fun q => ?_) (fun q => ?_)
        · replace h := h.1 q
          exact h
        · replace h := h.2 q
          refine aw_iconst K d_Ex_tryRule_123 rfl (v := 1) (by decide) ?_
          refine aw_goto K d_Ex_tryRule_124 (n := 128) (by decide) ?_
          exact h
set_option maxRecDepth 20000 in
theorem x_Ex_tryRule_127 {X : am_X} {dd bc bs : Nat} (K : am_ok X b_Ex_tryRule R_Ex 7 dd) {post : Option am_V → List am_C → Prop} (hr : am_rt X none post) {l1 l2 l3 l4 l5 m_nodes m_states m_kinds m_rules e_ending e_gone e_steps e_stepsBack e_stuck e_stoodFor e_stepsHere u_nodes u_numberings u_size u_symmetries : Int32} {m_badPairs u_form : Int64} {m_starts m_events m_growths u_states u_codes : Nat → Int32} {c0 c4 c5 c6 c7 c9 c10 c11 c12 c13 c14 c15 c16 c21 c22 c23 c24 c25 : am_C}
    (h : AW X 128 [some (aR 17), some (aI l1), some (aI l2), some (aI l3), some (aI l4), some (aI l5), none] [aI 0] [c0, oC 1 [aI m_nodes, aI m_states, aI m_kinds, aI m_rules, aR 2, aR 3, aR 4, aR 5, aR 6, aR 7, aR 8, aL m_badPairs], iC 40 m_starts, iC 40 m_events, c4, c5, c6, c7, iC 40 m_growths, c9, c10, c11, c12, c13, c14, c15, c16, oC 3 [aR 1, aR 9, aI e_ending, aI e_gone, aI e_steps, aI e_stepsBack, aI e_stuck, aI e_stoodFor, aI e_stepsHere, aR 18, aR 22], oC 4 [aI u_nodes, aI u_numberings, aR 19, aR 20, aI u_size, aL u_form, aI u_symmetries, aR 21], iC 4 u_states, iC 7 u_codes, c21, c22, c23, c24, c25] bc bs) :
    AW X 127 [some (aR 17), some (aI l1), some (aI l2), some (aI l3), some (aI l4), some (aI l5), none] [] [c0, oC 1 [aI m_nodes, aI m_states, aI m_kinds, aI m_rules, aR 2, aR 3, aR 4, aR 5, aR 6, aR 7, aR 8, aL m_badPairs], iC 40 m_starts, iC 40 m_events, c4, c5, c6, c7, iC 40 m_growths, c9, c10, c11, c12, c13, c14, c15, c16, oC 3 [aR 1, aR 9, aI e_ending, aI e_gone, aI e_steps, aI e_stepsBack, aI e_stuck, aI e_stoodFor, aI e_stepsHere, aR 18, aR 22], oC 4 [aI u_nodes, aI u_numberings, aR 19, aR 20, aI u_size, aL u_form, aI u_symmetries, aR 21], iC 4 u_states, iC 7 u_codes, c21, c22, c23, c24, c25] bc bs := by
  refine aw_iconst K d_Ex_tryRule_127 rfl (v := 0) (by decide) ?_
  exact h
set_option maxRecDepth 20000 in
theorem x_Ex_tryRule_128 {X : am_X} {dd bc bs : Nat} (K : am_ok X b_Ex_tryRule R_Ex 7 dd) {post : Option am_V → List am_C → Prop} (hr : am_rt X none post) {sp_Ex_makeStep : am_S} {dd_Ex_makeStep : Nat} (c_Ex_makeStep : Con y_Ex_makeStep b_Ex_makeStep 5 none dd_Ex_makeStep 0 0 false sp_Ex_makeStep) (hdd_Ex_makeStep : dd_Ex_makeStep + 1 ≤ dd) {l1 l2 l3 l4 l5 s0 m_nodes m_states m_kinds m_rules e_ending e_gone e_steps e_stepsBack e_stuck e_stoodFor e_stepsHere u_nodes u_numberings u_size u_symmetries : Int32} {m_badPairs u_form : Int64} {m_starts m_events m_growths u_states u_codes : Nat → Int32} {c0 c4 c5 c6 c7 c9 c10 c11 c12 c13 c14 c15 c16 c21 c22 c23 c24 c25 : am_C}
    (h : (¬ s0 = 0 → AW X 159 [some (aR 17), some (aI l1), some (aI l2), some (aI l3), some (aI l4), none, none] [] [c0, oC 1 [aI m_nodes, aI m_states, aI m_kinds, aI m_rules, aR 2, aR 3, aR 4, aR 5, aR 6, aR 7, aR 8, aL m_badPairs], iC 40 m_starts, iC 40 m_events, c4, c5, c6, c7, iC 40 m_growths, c9, c10, c11, c12, c13, c14, c15, c16, oC 3 [aR 1, aR 9, aI e_ending, aI e_gone, aI e_steps, aI e_stepsBack, aI e_stuck, aI e_stoodFor, aI e_stepsHere, aR 18, aR 22], oC 4 [aI u_nodes, aI u_numberings, aR 19, aR 20, aI u_size, aL u_form, aI u_symmetries, aR 21], iC 4 u_states, iC 7 u_codes, c21, c22, c23, c24, c25] bc bs) ∧ (s0 = 0 → (¬ (l5 >>> ((4 : Int32) &&& 31)) = l3 → AW X 159 [some (aR 17), some (aI l1), some (aI l2), some (aI l3), some (aI l4), none, none] [] [c0, oC 1 [aI m_nodes, aI m_states, aI m_kinds, aI m_rules, aR 2, aR 3, aR 4, aR 5, aR 6, aR 7, aR 8, aL m_badPairs], iC 40 m_starts, iC 40 m_events, c4, c5, c6, c7, iC 40 m_growths, c9, c10, c11, c12, c13, c14, c15, c16, oC 3 [aR 1, aR 9, aI e_ending, aI e_gone, aI e_steps, aI e_stepsBack, aI e_stuck, aI e_stoodFor, aI e_stepsHere, aR 18, aR 22], oC 4 [aI u_nodes, aI u_numberings, aR 19, aR 20, aI u_size, aL u_form, aI u_symmetries, aR 21], iC 4 u_states, iC 7 u_codes, c21, c22, c23, c24, c25] bc bs) ∧ ((l5 >>> ((4 : Int32) &&& 31)) = l3 → (¬ (l5 &&& (3 : Int32)) = l1 → AW X 159 [some (aR 17), some (aI l1), some (aI l2), some (aI l3), some (aI l4), none, none] [] [c0, oC 1 [aI m_nodes, aI m_states, aI m_kinds, aI m_rules, aR 2, aR 3, aR 4, aR 5, aR 6, aR 7, aR 8, aL m_badPairs], iC 40 m_starts, iC 40 m_events, c4, c5, c6, c7, iC 40 m_growths, c9, c10, c11, c12, c13, c14, c15, c16, oC 3 [aR 1, aR 9, aI e_ending, aI e_gone, aI e_steps, aI e_stepsBack, aI e_stuck, aI e_stoodFor, aI e_stepsHere, aR 18, aR 22], oC 4 [aI u_nodes, aI u_numberings, aR 19, aR 20, aI u_size, aL u_form, aI u_symmetries, aR 21], iC 4 u_states, iC 7 u_codes, c21, c22, c23, c24, c25] bc bs) ∧ ((l5 &&& (3 : Int32)) = l1 → sp_Ex_makeStep [aR 17, aI l1, aI l2, aI l4] [c0, oC 1 [aI m_nodes, aI m_states, aI m_kinds, aI m_rules, aR 2, aR 3, aR 4, aR 5, aR 6, aR 7, aR 8, aL m_badPairs], iC 40 m_starts, iC 40 m_events, c4, c5, c6, c7, iC 40 m_growths, c9, c10, c11, c12, c13, c14, c15, c16, oC 3 [aR 1, aR 9, aI e_ending, aI e_gone, aI e_steps, aI e_stepsBack, aI e_stuck, aI e_stoodFor, aI e_stepsHere, aR 18, aR 22], oC 4 [aI u_nodes, aI u_numberings, aR 19, aR 20, aI u_size, aL u_form, aI u_symmetries, aR 21], iC 4 u_states, iC 7 u_codes, c21, c22, c23, c24, c25] (fun rv w' => AW X 159 [some (aR 17), some (aI l1), some (aI l2), some (aI l3), some (aI l4), none, none] (rv.toList ++ []) w' bc bs))))) :
    AW X 128 [some (aR 17), some (aI l1), some (aI l2), some (aI l3), some (aI l4), some (aI l5), none] [aI s0] [c0, oC 1 [aI m_nodes, aI m_states, aI m_kinds, aI m_rules, aR 2, aR 3, aR 4, aR 5, aR 6, aR 7, aR 8, aL m_badPairs], iC 40 m_starts, iC 40 m_events, c4, c5, c6, c7, iC 40 m_growths, c9, c10, c11, c12, c13, c14, c15, c16, oC 3 [aR 1, aR 9, aI e_ending, aI e_gone, aI e_steps, aI e_stepsBack, aI e_stuck, aI e_stoodFor, aI e_stepsHere, aR 18, aR 22], oC 4 [aI u_nodes, aI u_numberings, aR 19, aR 20, aI u_size, aL u_form, aI u_symmetries, aR 21], iC 4 u_states, iC 7 u_codes, c21, c22, c23, c24, c25] bc bs := by
  refine aw_istore K d_Ex_tryRule_128 rfl (by decide) (lv' := [some (aR 17), some (aI l1), some (aI l2), some (aI l3), some (aI l4), some (aI l5), some (aI s0)]) rfl ?_
  refine aw_iload K d_Ex_tryRule_130 rfl rfl ?_
  refine aw_if_ne K d_Ex_tryRule_132 (t := 159) (by decide) rfl (fun q => ?_) (fun q => ?_)
  · replace h := h.1 q
    refine aw_less [5, 6] rfl ?_
    exact h
  · replace h := h.2 q
    refine aw_iload K d_Ex_tryRule_135 rfl rfl ?_
    refine aw_iconst K d_Ex_tryRule_137 rfl (v := 4) (by decide) ?_
    refine aw_ishr K d_Ex_tryRule_138 rfl ?_
    refine aw_iload_n K d_Ex_tryRule_139 rfl rfl ?_
    refine aw_icmp_ne K d_Ex_tryRule_140 (t := 159) (by decide) rfl (fun q => ?_) (fun q => ?_)
    · replace h := h.1 q
      refine aw_less [5, 6] rfl ?_
      exact h
    · replace h := h.2 q
      refine aw_iload K d_Ex_tryRule_143 rfl rfl ?_
      refine aw_iconst K d_Ex_tryRule_145 rfl (v := 3) (by decide) ?_
      refine aw_iand K d_Ex_tryRule_146 rfl ?_
      refine aw_iload_n K d_Ex_tryRule_147 rfl rfl ?_
      refine aw_icmp_ne K d_Ex_tryRule_148 (t := 159) (by decide) rfl (fun q => ?_) (fun q => ?_)
      · replace h := h.1 q
        refine aw_less [5, 6] rfl ?_
        exact h
      · replace h := h.2 q
        refine aw_aload_n K d_Ex_tryRule_151 rfl rfl ?_
        refine aw_iload_n K d_Ex_tryRule_152 rfl rfl ?_
        refine aw_iload_n K d_Ex_tryRule_153 rfl rfl ?_
        refine aw_iload K d_Ex_tryRule_154 rfl rfl ?_
        refine aw_less [5, 6] rfl ?_
        exact aw_callV K c_Ex_makeStep cb_Ex_118 ci_Ex_makeStep cs_Ex_makeStep hdd_Ex_makeStep (k := 17) rfl rfl d_Ex_tryRule_156 rfl (av := [aI l1, aI l2, aI l4]) rfl (Nat.le_of_ble_eq_true rfl) h (fun rv w' hF => hF)
set_option maxRecDepth 20000 in
theorem x_Ex_tryRule_159 {X : am_X} {dd bc bs : Nat} (K : am_ok X b_Ex_tryRule R_Ex 7 dd) {post : Option am_V → List am_C → Prop} (hr : am_rt X none post) {l1 l2 l3 l4 m_nodes m_states m_kinds m_rules e_ending e_gone e_steps e_stepsBack e_stuck e_stoodFor e_stepsHere u_nodes u_numberings u_size u_symmetries : Int32} {m_badPairs u_form : Int64} {m_starts m_events m_growths u_states u_codes : Nat → Int32} {c0 c4 c5 c6 c7 c9 c10 c11 c12 c13 c14 c15 c16 c21 c22 c23 c24 c25 : am_C}
    (h : AW X 70 [some (aR 17), some (aI l1), some (aI l2), some (aI l3), some (aI (l4 + 1)), none, none] [] [c0, oC 1 [aI m_nodes, aI m_states, aI m_kinds, aI m_rules, aR 2, aR 3, aR 4, aR 5, aR 6, aR 7, aR 8, aL m_badPairs], iC 40 m_starts, iC 40 m_events, c4, c5, c6, c7, iC 40 m_growths, c9, c10, c11, c12, c13, c14, c15, c16, oC 3 [aR 1, aR 9, aI e_ending, aI e_gone, aI e_steps, aI e_stepsBack, aI e_stuck, aI e_stoodFor, aI e_stepsHere, aR 18, aR 22], oC 4 [aI u_nodes, aI u_numberings, aR 19, aR 20, aI u_size, aL u_form, aI u_symmetries, aR 21], iC 4 u_states, iC 7 u_codes, c21, c22, c23, c24, c25] bc bs) :
    AW X 159 [some (aR 17), some (aI l1), some (aI l2), some (aI l3), some (aI l4), none, none] [] [c0, oC 1 [aI m_nodes, aI m_states, aI m_kinds, aI m_rules, aR 2, aR 3, aR 4, aR 5, aR 6, aR 7, aR 8, aL m_badPairs], iC 40 m_starts, iC 40 m_events, c4, c5, c6, c7, iC 40 m_growths, c9, c10, c11, c12, c13, c14, c15, c16, oC 3 [aR 1, aR 9, aI e_ending, aI e_gone, aI e_steps, aI e_stepsBack, aI e_stuck, aI e_stoodFor, aI e_stepsHere, aR 18, aR 22], oC 4 [aI u_nodes, aI u_numberings, aR 19, aR 20, aI u_size, aL u_form, aI u_symmetries, aR 21], iC 4 u_states, iC 7 u_codes, c21, c22, c23, c24, c25] bc bs := by
  refine aw_iinc K d_Ex_tryRule_159 rfl rfl (v := l4 + 1) rfl (by decide) (lv' := [some (aR 17), some (aI l1), some (aI l2), some (aI l3), some (aI (l4 + 1)), none, none]) rfl ?_
  refine aw_goto K d_Ex_tryRule_162 (n := 70) (by decide) ?_
  exact h
set_option maxRecDepth 20000 in
theorem x_Ex_makeStep_0 {X : am_X} {dd bc bs : Nat} (K : am_ok X b_Ex_makeStep R_Ex 5 dd) {post : Option am_V → List am_C → Prop} (hr : am_rt X none post) {sp_Dr_copyOf : am_S} {dd_Dr_copyOf : Nat} (c_Dr_copyOf : Con y_Dr_copyOf b_Dr_copyOf 2 none dd_Dr_copyOf 0 0 false sp_Dr_copyOf) (hdd_Dr_copyOf : dd_Dr_copyOf + 1 ≤ dd) {l1 l2 l3 m_nodes m_states m_kinds m_rules s_size e_ending e_gone e_steps e_stepsBack e_stuck e_stoodFor e_stepsHere u_nodes u_numberings u_size u_symmetries v_nodes v_numberings v_size v_symmetries : Int32} {m_badPairs u_form v_form : Int64} {m_targets u_codes v_states : Nat → Int32} {c0 c2 c3 c5 c6 c7 c8 c10 c11 c12 c13 c14 c15 c16 c19 c21 c24 c25 : am_C}
    (h : sp_Dr_copyOf [aR 22, aR 18] [c0, oC 1 [aI m_nodes, aI m_states, aI m_kinds, aI m_rules, aR 2, aR 3, aR 4, aR 5, aR 6, aR 7, aR 8, aL m_badPairs], c2, c3, iC 40 m_targets, c5, c6, c7, c8, oC 2 [aI s_size, aR 10, aR 11, aR 12, aR 13, aR 14, aR 15, aR 16], c10, c11, c12, c13, c14, c15, c16, oC 3 [aR 1, aR 9, aI e_ending, aI e_gone, aI (e_steps + (1 : Int32)), aI e_stepsBack, aI e_stuck, aI e_stoodFor, aI (e_stepsHere + (1 : Int32)), aR 18, aR 22], oC 4 [aI u_nodes, aI u_numberings, aR 19, aR 20, aI u_size, aL u_form, aI u_symmetries, aR 21], c19, iC 7 u_codes, c21, oC 4 [aI v_nodes, aI v_numberings, aR 23, aR 24, aI v_size, aL v_form, aI v_symmetries, aR 25], iC 4 v_states, c24, c25] (fun rv w' => AW X 31 [some (aR 17), some (aI l1), some (aI l2), some (aI l3), none] (rv.toList ++ []) w' bc bs)) :
    AW X 0 [some (aR 17), some (aI l1), some (aI l2), some (aI l3), none] [] [c0, oC 1 [aI m_nodes, aI m_states, aI m_kinds, aI m_rules, aR 2, aR 3, aR 4, aR 5, aR 6, aR 7, aR 8, aL m_badPairs], c2, c3, iC 40 m_targets, c5, c6, c7, c8, oC 2 [aI s_size, aR 10, aR 11, aR 12, aR 13, aR 14, aR 15, aR 16], c10, c11, c12, c13, c14, c15, c16, oC 3 [aR 1, aR 9, aI e_ending, aI e_gone, aI e_steps, aI e_stepsBack, aI e_stuck, aI e_stoodFor, aI e_stepsHere, aR 18, aR 22], oC 4 [aI u_nodes, aI u_numberings, aR 19, aR 20, aI u_size, aL u_form, aI u_symmetries, aR 21], c19, iC 7 u_codes, c21, oC 4 [aI v_nodes, aI v_numberings, aR 23, aR 24, aI v_size, aL v_form, aI v_symmetries, aR 25], iC 4 v_states, c24, c25] bc bs := by
  refine aw_aload_n K d_Ex_makeStep_0 rfl rfl ?_
  refine aw_dup K d_Ex_makeStep_1 rfl (fun _ e => nomatch e) ?_
  refine aw_getf K fd_Ex_18 d_Ex_makeStep_2 rfl rfl rfl ?_
  refine aw_iconst K d_Ex_makeStep_5 rfl (v := 1) (by decide) ?_
  refine aw_iadd K d_Ex_makeStep_6 rfl ?_
  refine aw_putf K fp_Ex_18 d_Ex_makeStep_7 rfl rfl (Nat.le_of_ble_eq_true rfl) (am_fit_i _) (w' := [c0, oC 1 [aI m_nodes, aI m_states, aI m_kinds, aI m_rules, aR 2, aR 3, aR 4, aR 5, aR 6, aR 7, aR 8, aL m_badPairs], c2, c3, iC 40 m_targets, c5, c6, c7, c8, oC 2 [aI s_size, aR 10, aR 11, aR 12, aR 13, aR 14, aR 15, aR 16], c10, c11, c12, c13, c14, c15, c16, oC 3 [aR 1, aR 9, aI e_ending, aI e_gone, aI (e_steps + (1 : Int32)), aI e_stepsBack, aI e_stuck, aI e_stoodFor, aI e_stepsHere, aR 18, aR 22], oC 4 [aI u_nodes, aI u_numberings, aR 19, aR 20, aI u_size, aL u_form, aI u_symmetries, aR 21], c19, iC 7 u_codes, c21, oC 4 [aI v_nodes, aI v_numberings, aR 23, aR 24, aI v_size, aL v_form, aI v_symmetries, aR 25], iC 4 v_states, c24, c25]) rfl ?_
  refine aw_aload_n K d_Ex_makeStep_10 rfl rfl ?_
  refine aw_dup K d_Ex_makeStep_11 rfl (fun _ e => nomatch e) ?_
  refine aw_getf K fd_Ex_30 d_Ex_makeStep_12 rfl rfl rfl ?_
  refine aw_iconst K d_Ex_makeStep_15 rfl (v := 1) (by decide) ?_
  refine aw_iadd K d_Ex_makeStep_16 rfl ?_
  refine aw_putf K fp_Ex_30 d_Ex_makeStep_17 rfl rfl (Nat.le_of_ble_eq_true rfl) (am_fit_i _) (w' := [c0, oC 1 [aI m_nodes, aI m_states, aI m_kinds, aI m_rules, aR 2, aR 3, aR 4, aR 5, aR 6, aR 7, aR 8, aL m_badPairs], c2, c3, iC 40 m_targets, c5, c6, c7, c8, oC 2 [aI s_size, aR 10, aR 11, aR 12, aR 13, aR 14, aR 15, aR 16], c10, c11, c12, c13, c14, c15, c16, oC 3 [aR 1, aR 9, aI e_ending, aI e_gone, aI (e_steps + (1 : Int32)), aI e_stepsBack, aI e_stuck, aI e_stoodFor, aI (e_stepsHere + (1 : Int32)), aR 18, aR 22], oC 4 [aI u_nodes, aI u_numberings, aR 19, aR 20, aI u_size, aL u_form, aI u_symmetries, aR 21], c19, iC 7 u_codes, c21, oC 4 [aI v_nodes, aI v_numberings, aR 23, aR 24, aI v_size, aL v_form, aI v_symmetries, aR 25], iC 4 v_states, c24, c25]) rfl ?_
  refine aw_aload_n K d_Ex_makeStep_20 rfl rfl ?_
  refine aw_getf K fd_Ex_55 d_Ex_makeStep_21 rfl rfl rfl ?_
  refine aw_aload_n K d_Ex_makeStep_24 rfl rfl ?_
  refine aw_getf K fd_Ex_51 d_Ex_makeStep_25 rfl rfl rfl ?_
  exact aw_callV K c_Dr_copyOf cb_Ex_124 ci_Dr_copyOf cs_Dr_copyOf hdd_Dr_copyOf (k := 22) rfl rfl d_Ex_makeStep_28 rfl (av := [aR 18]) rfl (Nat.le_of_ble_eq_true rfl) h (fun rv w' hF => hF)
set_option maxRecDepth 20000 in
theorem x_Ex_makeStep_31 {X : am_X} {dd bc bs : Nat} (K : am_ok X b_Ex_makeStep R_Ex 5 dd) {post : Option am_V → List am_C → Prop} (hr : am_rt X none post) {sp_Dr_removeCode : am_S} {dd_Dr_removeCode : Nat} (c_Dr_removeCode : Con y_Dr_removeCode b_Dr_removeCode 3 none dd_Dr_removeCode 0 0 false sp_Dr_removeCode) (hdd_Dr_removeCode : dd_Dr_removeCode + 1 ≤ dd) {l1 l2 l3 m_nodes m_states m_kinds m_rules s_size e_ending e_gone e_steps e_stepsBack e_stuck e_stoodFor e_stepsHere u_nodes u_numberings u_size u_symmetries v_nodes v_numberings v_size v_symmetries : Int32} {m_badPairs u_form v_form : Int64} {m_targets u_codes v_states : Nat → Int32} {c0 c2 c3 c5 c6 c7 c8 c10 c11 c12 c13 c14 c15 c16 c19 c21 c24 c25 : am_C}
    (h : vp_in l2 40 ∧ vp_in l1 4 ∧ sp_Dr_removeCode [aR 22, aI l3] [c0, oC 1 [aI m_nodes, aI m_states, aI m_kinds, aI m_rules, aR 2, aR 3, aR 4, aR 5, aR 6, aR 7, aR 8, aL m_badPairs], c2, c3, iC 40 m_targets, c5, c6, c7, c8, oC 2 [aI s_size, aR 10, aR 11, aR 12, aR 13, aR 14, aR 15, aR 16], c10, c11, c12, c13, c14, c15, c16, oC 3 [aR 1, aR 9, aI e_ending, aI e_gone, aI e_steps, aI e_stepsBack, aI e_stuck, aI e_stoodFor, aI e_stepsHere, aR 18, aR 22], oC 4 [aI u_nodes, aI u_numberings, aR 19, aR 20, aI u_size, aL u_form, aI u_symmetries, aR 21], c19, iC 7 u_codes, c21, oC 4 [aI v_nodes, aI v_numberings, aR 23, aR 24, aI v_size, aL v_form, aI v_symmetries, aR 25], iC 4 (upd v_states l1.toNatClampNeg (m_targets l2.toNatClampNeg)), c24, c25] (fun rv w' => AW X 57 [some (aR 17), some (aI l1), some (aI l2), some (aI l3), none] (rv.toList ++ []) w' bc bs)) :
    AW X 31 [some (aR 17), some (aI l1), some (aI l2), some (aI l3), none] [] [c0, oC 1 [aI m_nodes, aI m_states, aI m_kinds, aI m_rules, aR 2, aR 3, aR 4, aR 5, aR 6, aR 7, aR 8, aL m_badPairs], c2, c3, iC 40 m_targets, c5, c6, c7, c8, oC 2 [aI s_size, aR 10, aR 11, aR 12, aR 13, aR 14, aR 15, aR 16], c10, c11, c12, c13, c14, c15, c16, oC 3 [aR 1, aR 9, aI e_ending, aI e_gone, aI e_steps, aI e_stepsBack, aI e_stuck, aI e_stoodFor, aI e_stepsHere, aR 18, aR 22], oC 4 [aI u_nodes, aI u_numberings, aR 19, aR 20, aI u_size, aL u_form, aI u_symmetries, aR 21], c19, iC 7 u_codes, c21, oC 4 [aI v_nodes, aI v_numberings, aR 23, aR 24, aI v_size, aL v_form, aI v_symmetries, aR 25], iC 4 v_states, c24, c25] bc bs := by
  refine aw_aload_n K d_Ex_makeStep_31 rfl rfl ?_
  refine aw_getf K fd_Ex_55 d_Ex_makeStep_32 rfl rfl rfl ?_
  refine aw_getf K fd_Ex_105 d_Ex_makeStep_35 rfl rfl rfl ?_
  refine aw_iload_n K d_Ex_makeStep_38 rfl rfl ?_
  refine aw_aload_n K d_Ex_makeStep_39 rfl rfl ?_
  refine aw_getf K fd_Ex_33 d_Ex_makeStep_40 rfl rfl rfl ?_
  refine aw_getf K fd_Ex_128 d_Ex_makeStep_43 rfl rfl rfl ?_
  refine aw_iload_n K d_Ex_makeStep_46 rfl rfl ?_
  refine aw_iald K d_Ex_makeStep_47 rfl rfl h.1 ?_
  replace h := h.2
  refine aw_iast K d_Ex_makeStep_48 rfl rfl h.1 (w' := [c0, oC 1 [aI m_nodes, aI m_states, aI m_kinds, aI m_rules, aR 2, aR 3, aR 4, aR 5, aR 6, aR 7, aR 8, aL m_badPairs], c2, c3, iC 40 m_targets, c5, c6, c7, c8, oC 2 [aI s_size, aR 10, aR 11, aR 12, aR 13, aR 14, aR 15, aR 16], c10, c11, c12, c13, c14, c15, c16, oC 3 [aR 1, aR 9, aI e_ending, aI e_gone, aI e_steps, aI e_stepsBack, aI e_stuck, aI e_stoodFor, aI e_stepsHere, aR 18, aR 22], oC 4 [aI u_nodes, aI u_numberings, aR 19, aR 20, aI u_size, aL u_form, aI u_symmetries, aR 21], c19, iC 7 u_codes, c21, oC 4 [aI v_nodes, aI v_numberings, aR 23, aR 24, aI v_size, aL v_form, aI v_symmetries, aR 25], iC 4 (upd v_states l1.toNatClampNeg (m_targets l2.toNatClampNeg)), c24, c25]) rfl ?_
  replace h := h.2
  refine aw_aload_n K d_Ex_makeStep_49 rfl rfl ?_
  refine aw_getf K fd_Ex_55 d_Ex_makeStep_50 rfl rfl rfl ?_
  refine aw_iload_n K d_Ex_makeStep_53 rfl rfl ?_
  exact aw_callV K c_Dr_removeCode cb_Ex_131 ci_Dr_removeCode cs_Dr_removeCode hdd_Dr_removeCode (k := 22) rfl rfl d_Ex_makeStep_54 rfl (av := [aI l3]) rfl (Nat.le_of_ble_eq_true rfl) h (fun rv w' hF => hF)
set_option maxRecDepth 20000 in
theorem x_Ex_makeStep_57 {X : am_X} {dd bc bs : Nat} (K : am_ok X b_Ex_makeStep R_Ex 5 dd) {post : Option am_V → List am_C → Prop} (hr : am_rt X none post) {l1 l2 l3 m_nodes m_states m_kinds m_rules s_size e_ending e_gone e_steps e_stepsBack e_stuck e_stoodFor e_stepsHere u_nodes u_numberings u_size u_symmetries v_nodes v_numberings v_size v_symmetries : Int32} {m_badPairs u_form v_form : Int64} {m_targets u_codes v_states : Nat → Int32} {c0 c2 c3 c5 c6 c7 c8 c10 c11 c12 c13 c14 c15 c16 c19 c21 c24 c25 : am_C}
    (h : (¬ l3 = ((-1)) → vp_in l3 7 ∧ AW X 82 [some (aR 17), none, some (aI l2), none, none] [aI (((u_codes l3.toNatClampNeg) >>> ((2 : Int32) &&& 31)) &&& (3 : Int32)), aI l2, aI l1, aR 17] [c0, oC 1 [aI m_nodes, aI m_states, aI m_kinds, aI m_rules, aR 2, aR 3, aR 4, aR 5, aR 6, aR 7, aR 8, aL m_badPairs], c2, c3, iC 40 m_targets, c5, c6, c7, c8, oC 2 [aI s_size, aR 10, aR 11, aR 12, aR 13, aR 14, aR 15, aR 16], c10, c11, c12, c13, c14, c15, c16, oC 3 [aR 1, aR 9, aI e_ending, aI e_gone, aI e_steps, aI e_stepsBack, aI e_stuck, aI e_stoodFor, aI e_stepsHere, aR 18, aR 22], oC 4 [aI u_nodes, aI u_numberings, aR 19, aR 20, aI u_size, aL u_form, aI u_symmetries, aR 21], c19, iC 7 u_codes, c21, oC 4 [aI v_nodes, aI v_numberings, aR 23, aR 24, aI v_size, aL v_form, aI v_symmetries, aR 25], iC 4 v_states, c24, c25] bc bs) ∧ (l3 = ((-1)) → AW X 82 [some (aR 17), none, some (aI l2), none, none] [aI ((-1)), aI l2, aI l1, aR 17] [c0, oC 1 [aI m_nodes, aI m_states, aI m_kinds, aI m_rules, aR 2, aR 3, aR 4, aR 5, aR 6, aR 7, aR 8, aL m_badPairs], c2, c3, iC 40 m_targets, c5, c6, c7, c8, oC 2 [aI s_size, aR 10, aR 11, aR 12, aR 13, aR 14, aR 15, aR 16], c10, c11, c12, c13, c14, c15, c16, oC 3 [aR 1, aR 9, aI e_ending, aI e_gone, aI e_steps, aI e_stepsBack, aI e_stuck, aI e_stoodFor, aI e_stepsHere, aR 18, aR 22], oC 4 [aI u_nodes, aI u_numberings, aR 19, aR 20, aI u_size, aL u_form, aI u_symmetries, aR 21], c19, iC 7 u_codes, c21, oC 4 [aI v_nodes, aI v_numberings, aR 23, aR 24, aI v_size, aL v_form, aI v_symmetries, aR 25], iC 4 v_states, c24, c25] bc bs)) :
    AW X 57 [some (aR 17), some (aI l1), some (aI l2), some (aI l3), none] [] [c0, oC 1 [aI m_nodes, aI m_states, aI m_kinds, aI m_rules, aR 2, aR 3, aR 4, aR 5, aR 6, aR 7, aR 8, aL m_badPairs], c2, c3, iC 40 m_targets, c5, c6, c7, c8, oC 2 [aI s_size, aR 10, aR 11, aR 12, aR 13, aR 14, aR 15, aR 16], c10, c11, c12, c13, c14, c15, c16, oC 3 [aR 1, aR 9, aI e_ending, aI e_gone, aI e_steps, aI e_stepsBack, aI e_stuck, aI e_stoodFor, aI e_stepsHere, aR 18, aR 22], oC 4 [aI u_nodes, aI u_numberings, aR 19, aR 20, aI u_size, aL u_form, aI u_symmetries, aR 21], c19, iC 7 u_codes, c21, oC 4 [aI v_nodes, aI v_numberings, aR 23, aR 24, aI v_size, aL v_form, aI v_symmetries, aR 25], iC 4 v_states, c24, c25] bc bs := by
  refine aw_aload_n K d_Ex_makeStep_57 rfl rfl ?_
  refine aw_iload_n K d_Ex_makeStep_58 rfl rfl ?_
  refine aw_iload_n K d_Ex_makeStep_59 rfl rfl ?_
  refine aw_iload_n K d_Ex_makeStep_60 rfl rfl ?_
  refine aw_iconst K d_Ex_makeStep_61 rfl (v := (-1)) (by decide) ?_
  refine aw_icmp_ne K d_Ex_makeStep_62 (t := 69) (by decide) rfl (fun q => ?_) (fun q => ?_)
  · replace h := h.1 q
    refine aw_aload_n K d_Ex_makeStep_69 rfl rfl ?_
    refine aw_getf K fd_Ex_51 d_Ex_makeStep_70 rfl rfl rfl ?_
    refine aw_getf K fd_Ex_121 d_Ex_makeStep_73 rfl rfl rfl ?_
    refine aw_iload_n K d_Ex_makeStep_76 rfl rfl ?_
    refine aw_iald K d_Ex_makeStep_77 rfl rfl h.1 ?_
    replace h := h.2
    refine aw_iconst K d_Ex_makeStep_78 rfl (v := 2) (by decide) ?_
    refine aw_ishr K d_Ex_makeStep_79 rfl ?_
    refine aw_iconst K d_Ex_makeStep_80 rfl (v := 3) (by decide) ?_
    refine aw_iand K d_Ex_makeStep_81 rfl ?_
    refine aw_less [1, 3] rfl ?_
    exact h
  · replace h := h.2 q
    refine aw_iconst K d_Ex_makeStep_65 rfl (v := (-1)) (by decide) ?_
    refine aw_goto K d_Ex_makeStep_66 (n := 82) (by decide) ?_
    refine aw_less [1, 3] rfl ?_
    exact h
set_option maxRecDepth 20000 in
theorem x_Ex_makeStep_82 {X : am_X} {dd bc bs : Nat} (K : am_ok X b_Ex_makeStep R_Ex 5 dd) {post : Option am_V → List am_C → Prop} (hr : am_rt X none post) {sp_Ex_send : am_S} {dd_Ex_send : Nat} (c_Ex_send : Con y_Ex_send b_Ex_send 7 none dd_Ex_send 0 0 false sp_Ex_send) (hdd_Ex_send : dd_Ex_send + 1 ≤ dd) {l2 s0 s1 s2 m_nodes m_states m_kinds m_rules s_size e_ending e_gone e_steps e_stepsBack e_stuck e_stoodFor e_stepsHere u_nodes u_numberings u_size u_symmetries v_nodes v_numberings v_size v_symmetries : Int32} {m_badPairs u_form v_form : Int64} {m_targets u_codes v_states : Nat → Int32} {c0 c2 c3 c5 c6 c7 c8 c10 c11 c12 c13 c14 c15 c16 c19 c21 c24 c25 : am_C}
    (h : sp_Ex_send [aR 17, aI s2, aI s1, aI s0] [c0, oC 1 [aI m_nodes, aI m_states, aI m_kinds, aI m_rules, aR 2, aR 3, aR 4, aR 5, aR 6, aR 7, aR 8, aL m_badPairs], c2, c3, iC 40 m_targets, c5, c6, c7, c8, oC 2 [aI s_size, aR 10, aR 11, aR 12, aR 13, aR 14, aR 15, aR 16], c10, c11, c12, c13, c14, c15, c16, oC 3 [aR 1, aR 9, aI e_ending, aI e_gone, aI e_steps, aI e_stepsBack, aI e_stuck, aI e_stoodFor, aI e_stepsHere, aR 18, aR 22], oC 4 [aI u_nodes, aI u_numberings, aR 19, aR 20, aI u_size, aL u_form, aI u_symmetries, aR 21], c19, iC 7 u_codes, c21, oC 4 [aI v_nodes, aI v_numberings, aR 23, aR 24, aI v_size, aL v_form, aI v_symmetries, aR 25], iC 4 v_states, c24, c25] (fun rv w' => AW X 85 [some (aR 17), none, some (aI l2), none, none] (rv.toList ++ []) w' bc bs)) :
    AW X 82 [some (aR 17), none, some (aI l2), none, none] [aI s0, aI s1, aI s2, aR 17] [c0, oC 1 [aI m_nodes, aI m_states, aI m_kinds, aI m_rules, aR 2, aR 3, aR 4, aR 5, aR 6, aR 7, aR 8, aL m_badPairs], c2, c3, iC 40 m_targets, c5, c6, c7, c8, oC 2 [aI s_size, aR 10, aR 11, aR 12, aR 13, aR 14, aR 15, aR 16], c10, c11, c12, c13, c14, c15, c16, oC 3 [aR 1, aR 9, aI e_ending, aI e_gone, aI e_steps, aI e_stepsBack, aI e_stuck, aI e_stoodFor, aI e_stepsHere, aR 18, aR 22], oC 4 [aI u_nodes, aI u_numberings, aR 19, aR 20, aI u_size, aL u_form, aI u_symmetries, aR 21], c19, iC 7 u_codes, c21, oC 4 [aI v_nodes, aI v_numberings, aR 23, aR 24, aI v_size, aL v_form, aI v_symmetries, aR 25], iC 4 v_states, c24, c25] bc bs := by
  exact aw_callV K c_Ex_send cb_Ex_134 ci_Ex_send cs_Ex_send hdd_Ex_send (k := 17) rfl rfl d_Ex_makeStep_82 rfl (av := [aI s2, aI s1, aI s0]) rfl (Nat.le_of_ble_eq_true rfl) h (fun rv w' hF => hF)
set_option maxRecDepth 20000 in
theorem x_Ex_makeStep_85 {X : am_X} {dd bc bs : Nat} (K : am_ok X b_Ex_makeStep R_Ex 5 dd) {post : Option am_V → List am_C → Prop} (hr : am_rt X none post) {sp_Dr_settle : am_S} {dd_Dr_settle : Nat} (c_Dr_settle : Con y_Dr_settle b_Dr_settle 6 none dd_Dr_settle 0 0 false sp_Dr_settle) (hdd_Dr_settle : dd_Dr_settle + 1 ≤ dd) {l2 m_nodes m_states m_kinds m_rules s_size e_ending e_gone e_steps e_stepsBack e_stuck e_stoodFor e_stepsHere u_nodes u_numberings u_size u_symmetries v_nodes v_numberings v_size v_symmetries : Int32} {m_badPairs u_form v_form : Int64} {m_targets u_codes v_states : Nat → Int32} {c0 c2 c3 c5 c6 c7 c8 c10 c11 c12 c13 c14 c15 c16 c19 c21 c24 c25 : am_C}
    (h : sp_Dr_settle [aR 22] [c0, oC 1 [aI m_nodes, aI m_states, aI m_kinds, aI m_rules, aR 2, aR 3, aR 4, aR 5, aR 6, aR 7, aR 8, aL m_badPairs], c2, c3, iC 40 m_targets, c5, c6, c7, c8, oC 2 [aI s_size, aR 10, aR 11, aR 12, aR 13, aR 14, aR 15, aR 16], c10, c11, c12, c13, c14, c15, c16, oC 3 [aR 1, aR 9, aI e_ending, aI e_gone, aI e_steps, aI e_stepsBack, aI e_stuck, aI e_stoodFor, aI e_stepsHere, aR 18, aR 22], oC 4 [aI u_nodes, aI u_numberings, aR 19, aR 20, aI u_size, aL u_form, aI u_symmetries, aR 21], c19, iC 7 u_codes, c21, oC 4 [aI v_nodes, aI v_numberings, aR 23, aR 24, aI v_size, aL v_form, aI v_symmetries, aR 25], iC 4 v_states, c24, c25] (fun rv w' => AW X 92 [some (aR 17), none, some (aI l2), none, none] (rv.toList ++ []) w' bc bs)) :
    AW X 85 [some (aR 17), none, some (aI l2), none, none] [] [c0, oC 1 [aI m_nodes, aI m_states, aI m_kinds, aI m_rules, aR 2, aR 3, aR 4, aR 5, aR 6, aR 7, aR 8, aL m_badPairs], c2, c3, iC 40 m_targets, c5, c6, c7, c8, oC 2 [aI s_size, aR 10, aR 11, aR 12, aR 13, aR 14, aR 15, aR 16], c10, c11, c12, c13, c14, c15, c16, oC 3 [aR 1, aR 9, aI e_ending, aI e_gone, aI e_steps, aI e_stepsBack, aI e_stuck, aI e_stoodFor, aI e_stepsHere, aR 18, aR 22], oC 4 [aI u_nodes, aI u_numberings, aR 19, aR 20, aI u_size, aL u_form, aI u_symmetries, aR 21], c19, iC 7 u_codes, c21, oC 4 [aI v_nodes, aI v_numberings, aR 23, aR 24, aI v_size, aL v_form, aI v_symmetries, aR 25], iC 4 v_states, c24, c25] bc bs := by
  refine aw_aload_n K d_Ex_makeStep_85 rfl rfl ?_
  refine aw_getf K fd_Ex_55 d_Ex_makeStep_86 rfl rfl rfl ?_
  exact aw_callV K c_Dr_settle cb_Ex_76 ci_Dr_settle cs_Dr_settle hdd_Dr_settle (k := 22) rfl rfl d_Ex_makeStep_89 rfl (av := []) rfl (Nat.le_of_ble_eq_true rfl) h (fun rv w' hF => hF)
set_option maxRecDepth 20000 in
theorem x_Ex_makeStep_92 {X : am_X} {dd bc bs : Nat} (K : am_ok X b_Ex_makeStep R_Ex 5 dd) {post : Option am_V → List am_C → Prop} (hr : am_rt X none post) {sp_St_slotOf : am_S} {dd_St_slotOf : Nat} (c_St_slotOf : Con y_St_slotOf b_St_slotOf 6 (some .int) dd_St_slotOf 0 0 false sp_St_slotOf) (hdd_St_slotOf : dd_St_slotOf + 1 ≤ dd) {l2 m_nodes m_states m_kinds m_rules s_size e_ending e_gone e_steps e_stepsBack e_stuck e_stoodFor e_stepsHere u_nodes u_numberings u_size u_symmetries v_nodes v_numberings v_size v_symmetries : Int32} {m_badPairs u_form v_form : Int64} {m_targets u_codes v_states : Nat → Int32} {c0 c2 c3 c5 c6 c7 c8 c10 c11 c12 c13 c14 c15 c16 c19 c21 c24 c25 : am_C}
    (h : sp_St_slotOf [aR 9, aL v_form] [c0, oC 1 [aI m_nodes, aI m_states, aI m_kinds, aI m_rules, aR 2, aR 3, aR 4, aR 5, aR 6, aR 7, aR 8, aL m_badPairs], c2, c3, iC 40 m_targets, c5, c6, c7, c8, oC 2 [aI s_size, aR 10, aR 11, aR 12, aR 13, aR 14, aR 15, aR 16], c10, c11, c12, c13, c14, c15, c16, oC 3 [aR 1, aR 9, aI e_ending, aI e_gone, aI e_steps, aI e_stepsBack, aI e_stuck, aI e_stoodFor, aI e_stepsHere, aR 18, aR 22], oC 4 [aI u_nodes, aI u_numberings, aR 19, aR 20, aI u_size, aL u_form, aI u_symmetries, aR 21], c19, iC 7 u_codes, c21, oC 4 [aI v_nodes, aI v_numberings, aR 23, aR 24, aI v_size, aL v_form, aI v_symmetries, aR 25], iC 4 v_states, c24, c25] (fun rv w' => AW X 106 [some (aR 17), none, some (aI l2), none, none] (rv.toList ++ []) w' bc bs)) :
    AW X 92 [some (aR 17), none, some (aI l2), none, none] [] [c0, oC 1 [aI m_nodes, aI m_states, aI m_kinds, aI m_rules, aR 2, aR 3, aR 4, aR 5, aR 6, aR 7, aR 8, aL m_badPairs], c2, c3, iC 40 m_targets, c5, c6, c7, c8, oC 2 [aI s_size, aR 10, aR 11, aR 12, aR 13, aR 14, aR 15, aR 16], c10, c11, c12, c13, c14, c15, c16, oC 3 [aR 1, aR 9, aI e_ending, aI e_gone, aI e_steps, aI e_stepsBack, aI e_stuck, aI e_stoodFor, aI e_stepsHere, aR 18, aR 22], oC 4 [aI u_nodes, aI u_numberings, aR 19, aR 20, aI u_size, aL u_form, aI u_symmetries, aR 21], c19, iC 7 u_codes, c21, oC 4 [aI v_nodes, aI v_numberings, aR 23, aR 24, aI v_size, aL v_form, aI v_symmetries, aR 25], iC 4 v_states, c24, c25] bc bs := by
  refine aw_aload_n K d_Ex_makeStep_92 rfl rfl ?_
  refine aw_getf K fd_Ex_37 d_Ex_makeStep_93 rfl rfl rfl ?_
  refine aw_aload_n K d_Ex_makeStep_96 rfl rfl ?_
  refine aw_getf K fd_Ex_55 d_Ex_makeStep_97 rfl rfl rfl ?_
  refine aw_getf K fd_Ex_79 d_Ex_makeStep_100 rfl rfl rfl ?_
  exact aw_callV K c_St_slotOf cb_Ex_83 ci_St_slotOf cs_St_slotOf hdd_St_slotOf (k := 9) rfl rfl d_Ex_makeStep_103 rfl (av := [aL v_form]) rfl (Nat.le_of_ble_eq_true rfl) h (fun rv w' hF => hF)
set_option maxRecDepth 20000 in
theorem x_Ex_makeStep_106 {X : am_X} {dd bc bs : Nat} (K : am_ok X b_Ex_makeStep R_Ex 5 dd) {post : Option am_V → List am_C → Prop} (hr : am_rt X none post) {sp_St_isTaken : am_S} {dd_St_isTaken : Nat} (c_St_isTaken : Con y_St_isTaken b_St_isTaken 2 (some .boolean) dd_St_isTaken 0 0 false sp_St_isTaken) (hdd_St_isTaken : dd_St_isTaken + 1 ≤ dd) {l2 s0 m_nodes m_states m_kinds m_rules s_size e_ending e_gone e_steps e_stepsBack e_stuck e_stoodFor e_stepsHere u_nodes u_numberings u_size u_symmetries v_nodes v_numberings v_size v_symmetries : Int32} {m_badPairs u_form v_form : Int64} {m_targets u_codes v_states : Nat → Int32} {c0 c2 c3 c5 c6 c7 c8 c10 c11 c12 c13 c14 c15 c16 c19 c21 c24 c25 : am_C}
    (h : sp_St_isTaken [aR 9, aI s0] [c0, oC 1 [aI m_nodes, aI m_states, aI m_kinds, aI m_rules, aR 2, aR 3, aR 4, aR 5, aR 6, aR 7, aR 8, aL m_badPairs], c2, c3, iC 40 m_targets, c5, c6, c7, c8, oC 2 [aI s_size, aR 10, aR 11, aR 12, aR 13, aR 14, aR 15, aR 16], c10, c11, c12, c13, c14, c15, c16, oC 3 [aR 1, aR 9, aI e_ending, aI e_gone, aI e_steps, aI e_stepsBack, aI e_stuck, aI e_stoodFor, aI e_stepsHere, aR 18, aR 22], oC 4 [aI u_nodes, aI u_numberings, aR 19, aR 20, aI u_size, aL u_form, aI u_symmetries, aR 21], c19, iC 7 u_codes, c21, oC 4 [aI v_nodes, aI v_numberings, aR 23, aR 24, aI v_size, aL v_form, aI v_symmetries, aR 25], iC 4 v_states, c24, c25] (fun rv w' => AW X 117 [some (aR 17), none, some (aI l2), none, some (aI s0)] (rv.toList ++ []) w' bc bs)) :
    AW X 106 [some (aR 17), none, some (aI l2), none, none] [aI s0] [c0, oC 1 [aI m_nodes, aI m_states, aI m_kinds, aI m_rules, aR 2, aR 3, aR 4, aR 5, aR 6, aR 7, aR 8, aL m_badPairs], c2, c3, iC 40 m_targets, c5, c6, c7, c8, oC 2 [aI s_size, aR 10, aR 11, aR 12, aR 13, aR 14, aR 15, aR 16], c10, c11, c12, c13, c14, c15, c16, oC 3 [aR 1, aR 9, aI e_ending, aI e_gone, aI e_steps, aI e_stepsBack, aI e_stuck, aI e_stoodFor, aI e_stepsHere, aR 18, aR 22], oC 4 [aI u_nodes, aI u_numberings, aR 19, aR 20, aI u_size, aL u_form, aI u_symmetries, aR 21], c19, iC 7 u_codes, c21, oC 4 [aI v_nodes, aI v_numberings, aR 23, aR 24, aI v_size, aL v_form, aI v_symmetries, aR 25], iC 4 v_states, c24, c25] bc bs := by
  refine aw_istore K d_Ex_makeStep_106 rfl (by decide) (lv' := [some (aR 17), none, some (aI l2), none, some (aI s0)]) rfl ?_
  refine aw_aload_n K d_Ex_makeStep_108 rfl rfl ?_
  refine aw_getf K fd_Ex_37 d_Ex_makeStep_109 rfl rfl rfl ?_
  refine aw_iload K d_Ex_makeStep_112 rfl rfl ?_
  exact aw_callV K c_St_isTaken cb_Ex_137 ci_St_isTaken cs_St_isTaken hdd_St_isTaken (k := 9) rfl rfl d_Ex_makeStep_114 rfl (av := [aI s0]) rfl (Nat.le_of_ble_eq_true rfl) h (fun rv w' hF => hF)
set_option maxRecDepth 20000 in
theorem x_Ex_makeStep_117 {X : am_X} {dd bc bs : Nat} (K : am_ok X b_Ex_makeStep R_Ex 5 dd) {post : Option am_V → List am_C → Prop} (hr : am_rt X none post) {sp_St_isFull : am_S} {dd_St_isFull : Nat} (c_St_isFull : Con y_St_isFull b_St_isFull 1 (some .boolean) dd_St_isFull 0 0 false sp_St_isFull) (hdd_St_isFull : dd_St_isFull + 1 ≤ dd) {l2 l4 s0 m_nodes m_states m_kinds m_rules s_size e_ending e_gone e_steps e_stepsBack e_stuck e_stoodFor e_stepsHere u_nodes u_numberings u_size u_symmetries v_nodes v_numberings v_size v_symmetries : Int32} {m_badPairs u_form v_form : Int64} {m_targets u_codes v_states : Nat → Int32} {c0 c2 c3 c5 c6 c7 c8 c10 c11 c12 c13 c14 c15 c16 c19 c21 c24 c25 : am_C}
    (h : (s0 = 0 → sp_St_isFull [aR 9] [c0, oC 1 [aI m_nodes, aI m_states, aI m_kinds, aI m_rules, aR 2, aR 3, aR 4, aR 5, aR 6, aR 7, aR 8, aL m_badPairs], c2, c3, iC 40 m_targets, c5, c6, c7, c8, oC 2 [aI s_size, aR 10, aR 11, aR 12, aR 13, aR 14, aR 15, aR 16], c10, c11, c12, c13, c14, c15, c16, oC 3 [aR 1, aR 9, aI e_ending, aI e_gone, aI e_steps, aI e_stepsBack, aI e_stuck, aI e_stoodFor, aI e_stepsHere, aR 18, aR 22], oC 4 [aI u_nodes, aI u_numberings, aR 19, aR 20, aI u_size, aL u_form, aI u_symmetries, aR 21], c19, iC 7 u_codes, c21, oC 4 [aI v_nodes, aI v_numberings, aR 23, aR 24, aI v_size, aL v_form, aI v_symmetries, aR 25], iC 4 v_states, c24, c25] (fun rv w' => AW X 140 [some (aR 17), none, some (aI l2), none, some (aI l4)] (rv.toList ++ []) w' bc bs)) ∧ (¬ s0 = 0 → AW X 162 [none, none, none, none, none] [] [c0, oC 1 [aI m_nodes, aI m_states, aI m_kinds, aI m_rules, aR 2, aR 3, aR 4, aR 5, aR 6, aR 7, aR 8, aL m_badPairs], c2, c3, iC 40 m_targets, c5, c6, c7, c8, oC 2 [aI s_size, aR 10, aR 11, aR 12, aR 13, aR 14, aR 15, aR 16], c10, c11, c12, c13, c14, c15, c16, oC 3 [aR 1, aR 9, aI e_ending, aI e_gone, aI e_steps, aI (e_stepsBack + (1 : Int32)), aI e_stuck, aI e_stoodFor, aI e_stepsHere, aR 18, aR 22], oC 4 [aI u_nodes, aI u_numberings, aR 19, aR 20, aI u_size, aL u_form, aI u_symmetries, aR 21], c19, iC 7 u_codes, c21, oC 4 [aI v_nodes, aI v_numberings, aR 23, aR 24, aI v_size, aL v_form, aI v_symmetries, aR 25], iC 4 v_states, c24, c25] bc bs)) :
    AW X 117 [some (aR 17), none, some (aI l2), none, some (aI l4)] [aI s0] [c0, oC 1 [aI m_nodes, aI m_states, aI m_kinds, aI m_rules, aR 2, aR 3, aR 4, aR 5, aR 6, aR 7, aR 8, aL m_badPairs], c2, c3, iC 40 m_targets, c5, c6, c7, c8, oC 2 [aI s_size, aR 10, aR 11, aR 12, aR 13, aR 14, aR 15, aR 16], c10, c11, c12, c13, c14, c15, c16, oC 3 [aR 1, aR 9, aI e_ending, aI e_gone, aI e_steps, aI e_stepsBack, aI e_stuck, aI e_stoodFor, aI e_stepsHere, aR 18, aR 22], oC 4 [aI u_nodes, aI u_numberings, aR 19, aR 20, aI u_size, aL u_form, aI u_symmetries, aR 21], c19, iC 7 u_codes, c21, oC 4 [aI v_nodes, aI v_numberings, aR 23, aR 24, aI v_size, aL v_form, aI v_symmetries, aR 25], iC 4 v_states, c24, c25] bc bs := by
  refine aw_if_eq K d_Ex_makeStep_117 (t := 133) (by decide) rfl (fun q => ?_) (fun q => ?_)
  · replace h := h.1 q
    refine aw_aload_n K d_Ex_makeStep_133 rfl rfl ?_
    refine aw_getf K fd_Ex_37 d_Ex_makeStep_134 rfl rfl rfl ?_
    exact aw_callV K c_St_isFull cb_Ex_141 ci_St_isFull cs_St_isFull hdd_St_isFull (k := 9) rfl rfl d_Ex_makeStep_137 rfl (av := []) rfl (Nat.le_of_ble_eq_true rfl) h (fun rv w' hF => hF)
  · replace h := h.2 q
    refine aw_aload_n K d_Ex_makeStep_120 rfl rfl ?_
    refine aw_dup K d_Ex_makeStep_121 rfl (fun _ e => nomatch e) ?_
    refine aw_getf K fd_Ex_21 d_Ex_makeStep_122 rfl rfl rfl ?_
    refine aw_iconst K d_Ex_makeStep_125 rfl (v := 1) (by decide) ?_
    refine aw_iadd K d_Ex_makeStep_126 rfl ?_
    refine aw_putf K fp_Ex_21 d_Ex_makeStep_127 rfl rfl (Nat.le_of_ble_eq_true rfl) (am_fit_i _) (w' := [c0, oC 1 [aI m_nodes, aI m_states, aI m_kinds, aI m_rules, aR 2, aR 3, aR 4, aR 5, aR 6, aR 7, aR 8, aL m_badPairs], c2, c3, iC 40 m_targets, c5, c6, c7, c8, oC 2 [aI s_size, aR 10, aR 11, aR 12, aR 13, aR 14, aR 15, aR 16], c10, c11, c12, c13, c14, c15, c16, oC 3 [aR 1, aR 9, aI e_ending, aI e_gone, aI e_steps, aI (e_stepsBack + (1 : Int32)), aI e_stuck, aI e_stoodFor, aI e_stepsHere, aR 18, aR 22], oC 4 [aI u_nodes, aI u_numberings, aR 19, aR 20, aI u_size, aL u_form, aI u_symmetries, aR 21], c19, iC 7 u_codes, c21, oC 4 [aI v_nodes, aI v_numberings, aR 23, aR 24, aI v_size, aL v_form, aI v_symmetries, aR 25], iC 4 v_states, c24, c25]) rfl ?_
    refine aw_goto K d_Ex_makeStep_130 (n := 162) (by decide) ?_
    refine aw_less [0, 2, 4] rfl ?_
    exact h
set_option maxRecDepth 20000 in
theorem x_Ex_makeStep_140 {X : am_X} {dd bc bs : Nat} (K : am_ok X b_Ex_makeStep R_Ex 5 dd) {post : Option am_V → List am_C → Prop} (hr : am_rt X none post) {sp_Ex_take : am_S} {dd_Ex_take : Nat} (c_Ex_take : Con y_Ex_take b_Ex_take 4 none dd_Ex_take 0 0 false sp_Ex_take) (hdd_Ex_take : dd_Ex_take + 1 ≤ dd) {l2 l4 s0 m_nodes m_states m_kinds m_rules s_size e_ending e_gone e_steps e_stepsBack e_stuck e_stoodFor e_stepsHere u_nodes u_numberings u_size u_symmetries v_nodes v_numberings v_size v_symmetries : Int32} {m_badPairs u_form v_form : Int64} {m_targets u_codes v_states : Nat → Int32} {c0 c2 c3 c5 c6 c7 c8 c10 c11 c12 c13 c14 c15 c16 c19 c21 c24 c25 : am_C}
    (h : (s0 = 0 → sp_Ex_take [aR 17, aI l4, aI e_gone, aI l2] [c0, oC 1 [aI m_nodes, aI m_states, aI m_kinds, aI m_rules, aR 2, aR 3, aR 4, aR 5, aR 6, aR 7, aR 8, aL m_badPairs], c2, c3, iC 40 m_targets, c5, c6, c7, c8, oC 2 [aI s_size, aR 10, aR 11, aR 12, aR 13, aR 14, aR 15, aR 16], c10, c11, c12, c13, c14, c15, c16, oC 3 [aR 1, aR 9, aI e_ending, aI e_gone, aI e_steps, aI e_stepsBack, aI e_stuck, aI e_stoodFor, aI e_stepsHere, aR 18, aR 22], oC 4 [aI u_nodes, aI u_numberings, aR 19, aR 20, aI u_size, aL u_form, aI u_symmetries, aR 21], c19, iC 7 u_codes, c21, oC 4 [aI v_nodes, aI v_numberings, aR 23, aR 24, aI v_size, aL v_form, aI v_symmetries, aR 25], iC 4 v_states, c24, c25] (fun rv w' => AW X 162 [none, none, none, none, none] (rv.toList ++ []) w' bc bs)) ∧ (¬ s0 = 0 → AW X 162 [none, none, none, none, none] [] [c0, oC 1 [aI m_nodes, aI m_states, aI m_kinds, aI m_rules, aR 2, aR 3, aR 4, aR 5, aR 6, aR 7, aR 8, aL m_badPairs], c2, c3, iC 40 m_targets, c5, c6, c7, c8, oC 2 [aI s_size, aR 10, aR 11, aR 12, aR 13, aR 14, aR 15, aR 16], c10, c11, c12, c13, c14, c15, c16, oC 3 [aR 1, aR 9, aI ((-1)), aI e_gone, aI e_steps, aI e_stepsBack, aI e_stuck, aI e_stoodFor, aI e_stepsHere, aR 18, aR 22], oC 4 [aI u_nodes, aI u_numberings, aR 19, aR 20, aI u_size, aL u_form, aI u_symmetries, aR 21], c19, iC 7 u_codes, c21, oC 4 [aI v_nodes, aI v_numberings, aR 23, aR 24, aI v_size, aL v_form, aI v_symmetries, aR 25], iC 4 v_states, c24, c25] bc bs)) :
    AW X 140 [some (aR 17), none, some (aI l2), none, some (aI l4)] [aI s0] [c0, oC 1 [aI m_nodes, aI m_states, aI m_kinds, aI m_rules, aR 2, aR 3, aR 4, aR 5, aR 6, aR 7, aR 8, aL m_badPairs], c2, c3, iC 40 m_targets, c5, c6, c7, c8, oC 2 [aI s_size, aR 10, aR 11, aR 12, aR 13, aR 14, aR 15, aR 16], c10, c11, c12, c13, c14, c15, c16, oC 3 [aR 1, aR 9, aI e_ending, aI e_gone, aI e_steps, aI e_stepsBack, aI e_stuck, aI e_stoodFor, aI e_stepsHere, aR 18, aR 22], oC 4 [aI u_nodes, aI u_numberings, aR 19, aR 20, aI u_size, aL u_form, aI u_symmetries, aR 21], c19, iC 7 u_codes, c21, oC 4 [aI v_nodes, aI v_numberings, aR 23, aR 24, aI v_size, aL v_form, aI v_symmetries, aR 25], iC 4 v_states, c24, c25] bc bs := by
  refine aw_if_eq K d_Ex_makeStep_140 (t := 151) (by decide) rfl (fun q => ?_) (fun q => ?_)
  · replace h := h.1 q
    refine aw_aload_n K d_Ex_makeStep_151 rfl rfl ?_
    refine aw_iload K d_Ex_makeStep_152 rfl rfl ?_
    refine aw_aload_n K d_Ex_makeStep_154 rfl rfl ?_
    refine aw_getf K fd_Ex_15 d_Ex_makeStep_155 rfl rfl rfl ?_
    refine aw_iload_n K d_Ex_makeStep_158 rfl rfl ?_
    refine aw_less [0, 2, 4] rfl ?_
    exact aw_callV K c_Ex_take cb_Ex_87 ci_Ex_take cs_Ex_take hdd_Ex_take (k := 17) rfl rfl d_Ex_makeStep_159 rfl (av := [aI l4, aI e_gone, aI l2]) rfl (Nat.le_of_ble_eq_true rfl) h (fun rv w' hF => hF)
  · replace h := h.2 q
    refine aw_aload_n K d_Ex_makeStep_143 rfl rfl ?_
    refine aw_iconst K d_Ex_makeStep_144 rfl (v := (-1)) (by decide) ?_
    refine aw_putf K fp_Ex_9 d_Ex_makeStep_145 rfl rfl (Nat.le_of_ble_eq_true rfl) (am_fit_i _) (w' := [c0, oC 1 [aI m_nodes, aI m_states, aI m_kinds, aI m_rules, aR 2, aR 3, aR 4, aR 5, aR 6, aR 7, aR 8, aL m_badPairs], c2, c3, iC 40 m_targets, c5, c6, c7, c8, oC 2 [aI s_size, aR 10, aR 11, aR 12, aR 13, aR 14, aR 15, aR 16], c10, c11, c12, c13, c14, c15, c16, oC 3 [aR 1, aR 9, aI ((-1)), aI e_gone, aI e_steps, aI e_stepsBack, aI e_stuck, aI e_stoodFor, aI e_stepsHere, aR 18, aR 22], oC 4 [aI u_nodes, aI u_numberings, aR 19, aR 20, aI u_size, aL u_form, aI u_symmetries, aR 21], c19, iC 7 u_codes, c21, oC 4 [aI v_nodes, aI v_numberings, aR 23, aR 24, aI v_size, aL v_form, aI v_symmetries, aR 25], iC 4 v_states, c24, c25]) rfl ?_
    refine aw_goto K d_Ex_makeStep_148 (n := 162) (by decide) ?_
    refine aw_less [0, 2, 4] rfl ?_
    exact h
set_option maxRecDepth 20000 in
theorem x_Ex_makeStep_162 {X : am_X} {dd bc bs : Nat} (K : am_ok X b_Ex_makeStep R_Ex 5 dd) {post : Option am_V → List am_C → Prop} (hr : am_rt X none post) {m_nodes m_states m_kinds m_rules s_size e_ending e_gone e_steps e_stepsBack e_stuck e_stoodFor e_stepsHere u_nodes u_numberings u_size u_symmetries v_nodes v_numberings v_size v_symmetries : Int32} {m_badPairs u_form v_form : Int64} {m_targets u_codes v_states : Nat → Int32} {c0 c2 c3 c5 c6 c7 c8 c10 c11 c12 c13 c14 c15 c16 c19 c21 c24 c25 : am_C}
    (h : post none [c0, oC 1 [aI m_nodes, aI m_states, aI m_kinds, aI m_rules, aR 2, aR 3, aR 4, aR 5, aR 6, aR 7, aR 8, aL m_badPairs], c2, c3, iC 40 m_targets, c5, c6, c7, c8, oC 2 [aI s_size, aR 10, aR 11, aR 12, aR 13, aR 14, aR 15, aR 16], c10, c11, c12, c13, c14, c15, c16, oC 3 [aR 1, aR 9, aI e_ending, aI e_gone, aI e_steps, aI e_stepsBack, aI e_stuck, aI e_stoodFor, aI e_stepsHere, aR 18, aR 22], oC 4 [aI u_nodes, aI u_numberings, aR 19, aR 20, aI u_size, aL u_form, aI u_symmetries, aR 21], c19, iC 7 u_codes, c21, oC 4 [aI v_nodes, aI v_numberings, aR 23, aR 24, aI v_size, aL v_form, aI v_symmetries, aR 25], iC 4 v_states, c24, c25]) :
    AW X 162 [none, none, none, none, none] [] [c0, oC 1 [aI m_nodes, aI m_states, aI m_kinds, aI m_rules, aR 2, aR 3, aR 4, aR 5, aR 6, aR 7, aR 8, aL m_badPairs], c2, c3, iC 40 m_targets, c5, c6, c7, c8, oC 2 [aI s_size, aR 10, aR 11, aR 12, aR 13, aR 14, aR 15, aR 16], c10, c11, c12, c13, c14, c15, c16, oC 3 [aR 1, aR 9, aI e_ending, aI e_gone, aI e_steps, aI e_stepsBack, aI e_stuck, aI e_stoodFor, aI e_stepsHere, aR 18, aR 22], oC 4 [aI u_nodes, aI u_numberings, aR 19, aR 20, aI u_size, aL u_form, aI u_symmetries, aR 21], c19, iC 7 u_codes, c21, oC 4 [aI v_nodes, aI v_numberings, aR 23, aR 24, aI v_size, aL v_form, aI v_symmetries, aR 25], iC 4 v_states, c24, c25] bc bs := by
  exact aw_vret K hr d_Ex_makeStep_162 h
set_option maxRecDepth 20000 in
theorem x_Ex_send_0 {X : am_X} {dd bc bs : Nat} (K : am_ok X b_Ex_send R_Ex 7 dd) {post : Option am_V → List am_C → Prop} (hr : am_rt X none post) {l1 l2 l3 m_nodes m_states m_kinds m_rules e_ending e_gone e_steps e_stepsBack e_stuck e_stoodFor e_stepsHere v_nodes v_numberings v_size v_symmetries : Int32} {m_badPairs v_form : Int64} {m_sends m_sentKinds m_sentWhom : Nat → Int32} {c0 c2 c3 c4 c8 c9 c10 c11 c12 c13 c14 c15 c16 c18 c19 c20 c21 c23 c24 c25 : am_C}
    (h : AW X 9 [some (aR 17), some (aI l1), some (aI l2), some (aI l3), some (aI (l2 * (4 : Int32))), some (aI (l2 * (4 : Int32))), none] [] [c0, oC 1 [aI m_nodes, aI m_states, aI m_kinds, aI m_rules, aR 2, aR 3, aR 4, aR 5, aR 6, aR 7, aR 8, aL m_badPairs], c2, c3, c4, iC 40 m_sends, iC 160 m_sentKinds, iC 160 m_sentWhom, c8, c9, c10, c11, c12, c13, c14, c15, c16, oC 3 [aR 1, aR 9, aI e_ending, aI e_gone, aI e_steps, aI e_stepsBack, aI e_stuck, aI e_stoodFor, aI e_stepsHere, aR 18, aR 22], c18, c19, c20, c21, oC 4 [aI v_nodes, aI v_numberings, aR 23, aR 24, aI v_size, aL v_form, aI v_symmetries, aR 25], c23, c24, c25] bc bs) :
    AW X 0 [some (aR 17), some (aI l1), some (aI l2), some (aI l3), none, none, none] [] [c0, oC 1 [aI m_nodes, aI m_states, aI m_kinds, aI m_rules, aR 2, aR 3, aR 4, aR 5, aR 6, aR 7, aR 8, aL m_badPairs], c2, c3, c4, iC 40 m_sends, iC 160 m_sentKinds, iC 160 m_sentWhom, c8, c9, c10, c11, c12, c13, c14, c15, c16, oC 3 [aR 1, aR 9, aI e_ending, aI e_gone, aI e_steps, aI e_stepsBack, aI e_stuck, aI e_stoodFor, aI e_stepsHere, aR 18, aR 22], c18, c19, c20, c21, oC 4 [aI v_nodes, aI v_numberings, aR 23, aR 24, aI v_size, aL v_form, aI v_symmetries, aR 25], c23, c24, c25] bc bs := by
  refine aw_iload_n K d_Ex_send_0 rfl rfl ?_
  refine aw_iconst K d_Ex_send_1 rfl (v := 4) (by decide) ?_
  refine aw_imul K d_Ex_send_2 rfl ?_
  refine aw_istore K d_Ex_send_3 rfl (by decide) (lv' := [some (aR 17), some (aI l1), some (aI l2), some (aI l3), some (aI (l2 * (4 : Int32))), none, none]) rfl ?_
  refine aw_iload K d_Ex_send_5 rfl rfl ?_
  refine aw_istore K d_Ex_send_7 rfl (by decide) (lv' := [some (aR 17), some (aI l1), some (aI l2), some (aI l3), some (aI (l2 * (4 : Int32))), some (aI (l2 * (4 : Int32))), none]) rfl ?_
  exact h
set_option maxRecDepth 20000 in
theorem x_Ex_send_9 {X : am_X} {dd bc bs : Nat} (K : am_ok X b_Ex_send R_Ex 7 dd) {post : Option am_V → List am_C → Prop} (hr : am_rt X none post) {l1 l2 l3 l4 l5 m_nodes m_states m_kinds m_rules e_ending e_gone e_steps e_stepsBack e_stuck e_stoodFor e_stepsHere v_nodes v_numberings v_size v_symmetries : Int32} {m_badPairs v_form : Int64} {m_sends m_sentKinds m_sentWhom : Nat → Int32} {c0 c2 c3 c4 c8 c9 c10 c11 c12 c13 c14 c15 c16 c18 c19 c20 c21 c23 c24 c25 : am_C}
    (h : vp_in l2 40 ∧ ((l4 + (m_sends l2.toNatClampNeg)) ≤ l5 → post none [c0, oC 1 [aI m_nodes, aI m_states, aI m_kinds, aI m_rules, aR 2, aR 3, aR 4, aR 5, aR 6, aR 7, aR 8, aL m_badPairs], c2, c3, c4, iC 40 m_sends, iC 160 m_sentKinds, iC 160 m_sentWhom, c8, c9, c10, c11, c12, c13, c14, c15, c16, oC 3 [aR 1, aR 9, aI e_ending, aI e_gone, aI e_steps, aI e_stepsBack, aI e_stuck, aI e_stoodFor, aI e_stepsHere, aR 18, aR 22], c18, c19, c20, c21, oC 4 [aI v_nodes, aI v_numberings, aR 23, aR 24, aI v_size, aL v_form, aI v_symmetries, aR 25], c23, c24, c25]) ∧ (¬ (l4 + (m_sends l2.toNatClampNeg)) ≤ l5 → AW X 29 [some (aR 17), some (aI l1), some (aI l2), some (aI l3), some (aI l4), some (aI l5), some (aI 0)] [] [c0, oC 1 [aI m_nodes, aI m_states, aI m_kinds, aI m_rules, aR 2, aR 3, aR 4, aR 5, aR 6, aR 7, aR 8, aL m_badPairs], c2, c3, c4, iC 40 m_sends, iC 160 m_sentKinds, iC 160 m_sentWhom, c8, c9, c10, c11, c12, c13, c14, c15, c16, oC 3 [aR 1, aR 9, aI e_ending, aI e_gone, aI e_steps, aI e_stepsBack, aI e_stuck, aI e_stoodFor, aI e_stepsHere, aR 18, aR 22], c18, c19, c20, c21, oC 4 [aI v_nodes, aI v_numberings, aR 23, aR 24, aI v_size, aL v_form, aI v_symmetries, aR 25], c23, c24, c25] bc bs)) :
    AW X 9 [some (aR 17), some (aI l1), some (aI l2), some (aI l3), some (aI l4), some (aI l5), none] [] [c0, oC 1 [aI m_nodes, aI m_states, aI m_kinds, aI m_rules, aR 2, aR 3, aR 4, aR 5, aR 6, aR 7, aR 8, aL m_badPairs], c2, c3, c4, iC 40 m_sends, iC 160 m_sentKinds, iC 160 m_sentWhom, c8, c9, c10, c11, c12, c13, c14, c15, c16, oC 3 [aR 1, aR 9, aI e_ending, aI e_gone, aI e_steps, aI e_stepsBack, aI e_stuck, aI e_stoodFor, aI e_stepsHere, aR 18, aR 22], c18, c19, c20, c21, oC 4 [aI v_nodes, aI v_numberings, aR 23, aR 24, aI v_size, aL v_form, aI v_symmetries, aR 25], c23, c24, c25] bc bs := by
  refine aw_iload K d_Ex_send_9 rfl rfl ?_
  refine aw_iload K d_Ex_send_11 rfl rfl ?_
  refine aw_aload_n K d_Ex_send_13 rfl rfl ?_
  refine aw_getf K fd_Ex_33 d_Ex_send_14 rfl rfl rfl ?_
  refine aw_getf K fd_Ex_145 d_Ex_send_17 rfl rfl rfl ?_
  refine aw_iload_n K d_Ex_send_20 rfl rfl ?_
  refine aw_iald K d_Ex_send_21 rfl rfl h.1 ?_
  replace h := h.2
  refine aw_iadd K d_Ex_send_22 rfl ?_
  refine aw_icmp_ge K d_Ex_send_23 (t := 101) (by decide) rfl (fun q => ?_) (fun q => ?_)
  · replace h := h.1 q
    exact aw_vret K hr d_Ex_send_101 h
  · replace h := h.2 q
    refine aw_iconst K d_Ex_send_26 rfl (v := 0) (by decide) ?_
    refine aw_istore K d_Ex_send_27 rfl (by decide) (lv' := [some (aR 17), some (aI l1), some (aI l2), some (aI l3), some (aI l4), some (aI l5), some (aI 0)]) rfl ?_
    exact h
set_option maxRecDepth 20000 in
theorem x_Ex_send_29 {X : am_X} {dd bc bs : Nat} (K : am_ok X b_Ex_send R_Ex 7 dd) {post : Option am_V → List am_C → Prop} (hr : am_rt X none post) {l1 l2 l3 l4 l5 l6 m_nodes m_states m_kinds m_rules e_ending e_gone e_steps e_stepsBack e_stuck e_stoodFor e_stepsHere v_nodes v_numberings v_size v_symmetries : Int32} {m_badPairs v_form : Int64} {m_sends m_sentKinds m_sentWhom : Nat → Int32} {c0 c2 c3 c4 c8 c9 c10 c11 c12 c13 c14 c15 c16 c18 c19 c20 c21 c23 c24 c25 : am_C}
    (h : (m_nodes ≤ l6 → AW X 9 [some (aR 17), some (aI l1), some (aI l2), some (aI l3), some (aI l4), some (aI (l5 + 1)), none] [] [c0, oC 1 [aI m_nodes, aI m_states, aI m_kinds, aI m_rules, aR 2, aR 3, aR 4, aR 5, aR 6, aR 7, aR 8, aL m_badPairs], c2, c3, c4, iC 40 m_sends, iC 160 m_sentKinds, iC 160 m_sentWhom, c8, c9, c10, c11, c12, c13, c14, c15, c16, oC 3 [aR 1, aR 9, aI e_ending, aI e_gone, aI e_steps, aI e_stepsBack, aI e_stuck, aI e_stoodFor, aI e_stepsHere, aR 18, aR 22], c18, c19, c20, c21, oC 4 [aI v_nodes, aI v_numberings, aR 23, aR 24, aI v_size, aL v_form, aI v_symmetries, aR 25], c23, c24, c25] bc bs) ∧ (¬ m_nodes ≤ l6 → vp_in l5 160 ∧ (¬ (m_sentWhom l5.toNatClampNeg) = 0 → (l6 = l1 → AW X 89 [some (aR 17), some (aI l1), some (aI l2), some (aI l3), some (aI l4), some (aI l5), some (aI l6)] [] [c0, oC 1 [aI m_nodes, aI m_states, aI m_kinds, aI m_rules, aR 2, aR 3, aR 4, aR 5, aR 6, aR 7, aR 8, aL m_badPairs], c2, c3, c4, iC 40 m_sends, iC 160 m_sentKinds, iC 160 m_sentWhom, c8, c9, c10, c11, c12, c13, c14, c15, c16, oC 3 [aR 1, aR 9, aI e_ending, aI e_gone, aI e_steps, aI e_stepsBack, aI e_stuck, aI e_stoodFor, aI e_stepsHere, aR 18, aR 22], c18, c19, c20, c21, oC 4 [aI v_nodes, aI v_numberings, aR 23, aR 24, aI v_size, aL v_form, aI v_symmetries, aR 25], c23, c24, c25] bc bs) ∧ (¬ l6 = l1 → AW X 69 [some (aR 17), some (aI l1), some (aI l2), some (aI l3), some (aI l4), some (aI l5), some (aI l6)] [] [c0, oC 1 [aI m_nodes, aI m_states, aI m_kinds, aI m_rules, aR 2, aR 3, aR 4, aR 5, aR 6, aR 7, aR 8, aL m_badPairs], c2, c3, c4, iC 40 m_sends, iC 160 m_sentKinds, iC 160 m_sentWhom, c8, c9, c10, c11, c12, c13, c14, c15, c16, oC 3 [aR 1, aR 9, aI e_ending, aI e_gone, aI e_steps, aI e_stepsBack, aI e_stuck, aI e_stoodFor, aI e_stepsHere, aR 18, aR 22], c18, c19, c20, c21, oC 4 [aI v_nodes, aI v_numberings, aR 23, aR 24, aI v_size, aL v_form, aI v_symmetries, aR 25], c23, c24, c25] bc bs)) ∧ ((m_sentWhom l5.toNatClampNeg) = 0 → (¬ l6 = l3 → AW X 89 [some (aR 17), some (aI l1), some (aI l2), some (aI l3), some (aI l4), some (aI l5), some (aI l6)] [] [c0, oC 1 [aI m_nodes, aI m_states, aI m_kinds, aI m_rules, aR 2, aR 3, aR 4, aR 5, aR 6, aR 7, aR 8, aL m_badPairs], c2, c3, c4, iC 40 m_sends, iC 160 m_sentKinds, iC 160 m_sentWhom, c8, c9, c10, c11, c12, c13, c14, c15, c16, oC 3 [aR 1, aR 9, aI e_ending, aI e_gone, aI e_steps, aI e_stepsBack, aI e_stuck, aI e_stoodFor, aI e_stepsHere, aR 18, aR 22], c18, c19, c20, c21, oC 4 [aI v_nodes, aI v_numberings, aR 23, aR 24, aI v_size, aL v_form, aI v_symmetries, aR 25], c23, c24, c25] bc bs) ∧ (l6 = l3 → AW X 69 [some (aR 17), some (aI l1), some (aI l2), some (aI l3), some (aI l4), some (aI l5), some (aI l6)] [] [c0, oC 1 [aI m_nodes, aI m_states, aI m_kinds, aI m_rules, aR 2, aR 3, aR 4, aR 5, aR 6, aR 7, aR 8, aL m_badPairs], c2, c3, c4, iC 40 m_sends, iC 160 m_sentKinds, iC 160 m_sentWhom, c8, c9, c10, c11, c12, c13, c14, c15, c16, oC 3 [aR 1, aR 9, aI e_ending, aI e_gone, aI e_steps, aI e_stepsBack, aI e_stuck, aI e_stoodFor, aI e_stepsHere, aR 18, aR 22], c18, c19, c20, c21, oC 4 [aI v_nodes, aI v_numberings, aR 23, aR 24, aI v_size, aL v_form, aI v_symmetries, aR 25], c23, c24, c25] bc bs)))) :
    AW X 29 [some (aR 17), some (aI l1), some (aI l2), some (aI l3), some (aI l4), some (aI l5), some (aI l6)] [] [c0, oC 1 [aI m_nodes, aI m_states, aI m_kinds, aI m_rules, aR 2, aR 3, aR 4, aR 5, aR 6, aR 7, aR 8, aL m_badPairs], c2, c3, c4, iC 40 m_sends, iC 160 m_sentKinds, iC 160 m_sentWhom, c8, c9, c10, c11, c12, c13, c14, c15, c16, oC 3 [aR 1, aR 9, aI e_ending, aI e_gone, aI e_steps, aI e_stepsBack, aI e_stuck, aI e_stoodFor, aI e_stepsHere, aR 18, aR 22], c18, c19, c20, c21, oC 4 [aI v_nodes, aI v_numberings, aR 23, aR 24, aI v_size, aL v_form, aI v_symmetries, aR 25], c23, c24, c25] bc bs := by
  refine aw_iload K d_Ex_send_29 rfl rfl ?_
  refine aw_aload_n K d_Ex_send_31 rfl rfl ?_
  refine aw_getf K fd_Ex_33 d_Ex_send_32 rfl rfl rfl ?_
  refine aw_getf K fd_Ex_43 d_Ex_send_35 rfl rfl rfl ?_
  refine aw_icmp_ge K d_Ex_send_38 (t := 95) (by decide) rfl (fun q => ?_) (fun q => ?_)
  · replace h := h.1 q
    refine aw_iinc K d_Ex_send_95 rfl rfl (v := l5 + 1) rfl (by decide) (lv' := [some (aR 17), some (aI l1), some (aI l2), some (aI l3), some (aI l4), some (aI (l5 + 1)), some (aI l6)]) rfl ?_
    refine aw_goto K d_Ex_send_98 (n := 9) (by decide) ?_
    refine aw_less [6] rfl ?_
    exact h
  · replace h := h.2 q
    refine aw_aload_n K d_Ex_send_41 rfl rfl ?_
    refine aw_getf K fd_Ex_33 d_Ex_send_42 rfl rfl rfl ?_
    refine aw_getf K fd_Ex_148 d_Ex_send_45 rfl rfl rfl ?_
    refine aw_iload K d_Ex_send_48 rfl rfl ?_
    refine aw_iald K d_Ex_send_50 rfl rfl h.1 ?_
    replace h := h.2
    refine aw_if_ne K d_Ex_send_51 (t := 63) (by decide) rfl (fun q => ?_) (fun q => ?_)
    · replace h := h.1 q
      refine aw_iload K d_Ex_send_63 rfl rfl ?_
      refine aw_iload_n K d_Ex_send_65 rfl rfl ?_
      refine aw_icmp_eq K d_Ex_send_66 (t := 89) (by decide) rfl (fun q => ?_) (fun q => ?_)
      · replace h := h.1 q
        exact h
      · replace h := h.2 q
        exact h
    · replace h := h.2 q
      refine aw_iload K d_Ex_send_54 rfl rfl ?_
      refine aw_iload_n K d_Ex_send_56 rfl rfl ?_
      refine aw_icmp_ne K d_Ex_send_57 (t := 89) (by decide) rfl (fun q => ?_) (fun q => ?_)
      · replace h := h.1 q
        exact h
      · replace h := h.2 q
        refine aw_goto K d_Ex_send_60 (n := 69) (by decide) ?_
        exact h
set_option maxRecDepth 20000 in
theorem x_Ex_send_69 {X : am_X} {dd bc bs : Nat} (K : am_ok X b_Ex_send R_Ex 7 dd) {post : Option am_V → List am_C → Prop} (hr : am_rt X none post) {sp_Dr_addCode : am_S} {dd_Dr_addCode : Nat} (c_Dr_addCode : Con y_Dr_addCode b_Dr_addCode 4 none dd_Dr_addCode 0 0 false sp_Dr_addCode) (hdd_Dr_addCode : dd_Dr_addCode + 1 ≤ dd) {l1 l2 l3 l4 l5 l6 m_nodes m_states m_kinds m_rules e_ending e_gone e_steps e_stepsBack e_stuck e_stoodFor e_stepsHere v_nodes v_numberings v_size v_symmetries : Int32} {m_badPairs v_form : Int64} {m_sends m_sentKinds m_sentWhom : Nat → Int32} {c0 c2 c3 c4 c8 c9 c10 c11 c12 c13 c14 c15 c16 c18 c19 c20 c21 c23 c24 c25 : am_C}
    (h : vp_in l5 160 ∧ sp_Dr_addCode [aR 22, aI (m_sentKinds l5.toNatClampNeg), aI l1, aI l6] [c0, oC 1 [aI m_nodes, aI m_states, aI m_kinds, aI m_rules, aR 2, aR 3, aR 4, aR 5, aR 6, aR 7, aR 8, aL m_badPairs], c2, c3, c4, iC 40 m_sends, iC 160 m_sentKinds, iC 160 m_sentWhom, c8, c9, c10, c11, c12, c13, c14, c15, c16, oC 3 [aR 1, aR 9, aI e_ending, aI e_gone, aI e_steps, aI e_stepsBack, aI e_stuck, aI e_stoodFor, aI e_stepsHere, aR 18, aR 22], c18, c19, c20, c21, oC 4 [aI v_nodes, aI v_numberings, aR 23, aR 24, aI v_size, aL v_form, aI v_symmetries, aR 25], c23, c24, c25] (fun rv w' => AW X 89 [some (aR 17), some (aI l1), some (aI l2), some (aI l3), some (aI l4), some (aI l5), some (aI l6)] (rv.toList ++ []) w' bc bs)) :
    AW X 69 [some (aR 17), some (aI l1), some (aI l2), some (aI l3), some (aI l4), some (aI l5), some (aI l6)] [] [c0, oC 1 [aI m_nodes, aI m_states, aI m_kinds, aI m_rules, aR 2, aR 3, aR 4, aR 5, aR 6, aR 7, aR 8, aL m_badPairs], c2, c3, c4, iC 40 m_sends, iC 160 m_sentKinds, iC 160 m_sentWhom, c8, c9, c10, c11, c12, c13, c14, c15, c16, oC 3 [aR 1, aR 9, aI e_ending, aI e_gone, aI e_steps, aI e_stepsBack, aI e_stuck, aI e_stoodFor, aI e_stepsHere, aR 18, aR 22], c18, c19, c20, c21, oC 4 [aI v_nodes, aI v_numberings, aR 23, aR 24, aI v_size, aL v_form, aI v_symmetries, aR 25], c23, c24, c25] bc bs := by
  refine aw_aload_n K d_Ex_send_69 rfl rfl ?_
  refine aw_getf K fd_Ex_55 d_Ex_send_70 rfl rfl rfl ?_
  refine aw_aload_n K d_Ex_send_73 rfl rfl ?_
  refine aw_getf K fd_Ex_33 d_Ex_send_74 rfl rfl rfl ?_
  refine aw_getf K fd_Ex_151 d_Ex_send_77 rfl rfl rfl ?_
  refine aw_iload K d_Ex_send_80 rfl rfl ?_
  refine aw_iald K d_Ex_send_82 rfl rfl h.1 ?_
  replace h := h.2
  refine aw_iload_n K d_Ex_send_83 rfl rfl ?_
  refine aw_iload K d_Ex_send_84 rfl rfl ?_
  exact aw_callV K c_Dr_addCode cb_Ex_154 ci_Dr_addCode cs_Dr_addCode hdd_Dr_addCode (k := 22) rfl rfl d_Ex_send_86 rfl (av := [aI (m_sentKinds l5.toNatClampNeg), aI l1, aI l6]) rfl (Nat.le_of_ble_eq_true rfl) h (fun rv w' hF => hF)
set_option maxRecDepth 20000 in
theorem x_Ex_send_89 {X : am_X} {dd bc bs : Nat} (K : am_ok X b_Ex_send R_Ex 7 dd) {post : Option am_V → List am_C → Prop} (hr : am_rt X none post) {l1 l2 l3 l4 l5 l6 m_nodes m_states m_kinds m_rules e_ending e_gone e_steps e_stepsBack e_stuck e_stoodFor e_stepsHere v_nodes v_numberings v_size v_symmetries : Int32} {m_badPairs v_form : Int64} {m_sends m_sentKinds m_sentWhom : Nat → Int32} {c0 c2 c3 c4 c8 c9 c10 c11 c12 c13 c14 c15 c16 c18 c19 c20 c21 c23 c24 c25 : am_C}
    (h : AW X 29 [some (aR 17), some (aI l1), some (aI l2), some (aI l3), some (aI l4), some (aI l5), some (aI (l6 + 1))] [] [c0, oC 1 [aI m_nodes, aI m_states, aI m_kinds, aI m_rules, aR 2, aR 3, aR 4, aR 5, aR 6, aR 7, aR 8, aL m_badPairs], c2, c3, c4, iC 40 m_sends, iC 160 m_sentKinds, iC 160 m_sentWhom, c8, c9, c10, c11, c12, c13, c14, c15, c16, oC 3 [aR 1, aR 9, aI e_ending, aI e_gone, aI e_steps, aI e_stepsBack, aI e_stuck, aI e_stoodFor, aI e_stepsHere, aR 18, aR 22], c18, c19, c20, c21, oC 4 [aI v_nodes, aI v_numberings, aR 23, aR 24, aI v_size, aL v_form, aI v_symmetries, aR 25], c23, c24, c25] bc bs) :
    AW X 89 [some (aR 17), some (aI l1), some (aI l2), some (aI l3), some (aI l4), some (aI l5), some (aI l6)] [] [c0, oC 1 [aI m_nodes, aI m_states, aI m_kinds, aI m_rules, aR 2, aR 3, aR 4, aR 5, aR 6, aR 7, aR 8, aL m_badPairs], c2, c3, c4, iC 40 m_sends, iC 160 m_sentKinds, iC 160 m_sentWhom, c8, c9, c10, c11, c12, c13, c14, c15, c16, oC 3 [aR 1, aR 9, aI e_ending, aI e_gone, aI e_steps, aI e_stepsBack, aI e_stuck, aI e_stoodFor, aI e_stepsHere, aR 18, aR 22], c18, c19, c20, c21, oC 4 [aI v_nodes, aI v_numberings, aR 23, aR 24, aI v_size, aL v_form, aI v_symmetries, aR 25], c23, c24, c25] bc bs := by
  refine aw_iinc K d_Ex_send_89 rfl rfl (v := l6 + 1) rfl (by decide) (lv' := [some (aR 17), some (aI l1), some (aI l2), some (aI l3), some (aI l4), some (aI l5), some (aI (l6 + 1))]) rfl ?_
  refine aw_goto K d_Ex_send_92 (n := 29) (by decide) ?_
  exact h
set_option maxRecDepth 20000 in
theorem x_Ex_take_0 {X : am_X} {dd bc bs : Nat} (K : am_ok X b_Ex_take R_Ex 4 dd) {post : Option am_V → List am_C → Prop} (hr : am_rt X none post) {sp_St_add : am_S} {dd_St_add : Nat} (c_St_add : Con y_St_add b_St_add 5 none dd_St_add 0 0 false sp_St_add) (hdd_St_add : dd_St_add + 1 ≤ dd) {l1 l2 l3 m_nodes m_states m_kinds m_rules s_size e_ending e_gone e_steps e_stepsBack e_stuck e_stoodFor e_stepsHere v_nodes v_numberings v_size v_symmetries : Int32} {m_badPairs v_form : Int64} {c0 c2 c3 c4 c5 c6 c7 c8 c10 c11 c12 c13 c14 c15 c16 c18 c19 c20 c21 c23 c24 c25 : am_C}
    (h : sp_St_add [aR 9, aI l1, aR 22, aI l2, aI l3] [c0, oC 1 [aI m_nodes, aI m_states, aI m_kinds, aI m_rules, aR 2, aR 3, aR 4, aR 5, aR 6, aR 7, aR 8, aL m_badPairs], c2, c3, c4, c5, c6, c7, c8, oC 2 [aI s_size, aR 10, aR 11, aR 12, aR 13, aR 14, aR 15, aR 16], c10, c11, c12, c13, c14, c15, c16, oC 3 [aR 1, aR 9, aI e_ending, aI e_gone, aI e_steps, aI e_stepsBack, aI e_stuck, aI e_stoodFor, aI e_stepsHere, aR 18, aR 22], c18, c19, c20, c21, oC 4 [aI v_nodes, aI v_numberings, aR 23, aR 24, aI v_size, aL v_form, aI v_symmetries, aR 25], c23, c24, c25] (fun rv w' => AW X 14 [some (aR 17), none, none, none] (rv.toList ++ []) w' bc bs)) :
    AW X 0 [some (aR 17), some (aI l1), some (aI l2), some (aI l3)] [] [c0, oC 1 [aI m_nodes, aI m_states, aI m_kinds, aI m_rules, aR 2, aR 3, aR 4, aR 5, aR 6, aR 7, aR 8, aL m_badPairs], c2, c3, c4, c5, c6, c7, c8, oC 2 [aI s_size, aR 10, aR 11, aR 12, aR 13, aR 14, aR 15, aR 16], c10, c11, c12, c13, c14, c15, c16, oC 3 [aR 1, aR 9, aI e_ending, aI e_gone, aI e_steps, aI e_stepsBack, aI e_stuck, aI e_stoodFor, aI e_stepsHere, aR 18, aR 22], c18, c19, c20, c21, oC 4 [aI v_nodes, aI v_numberings, aR 23, aR 24, aI v_size, aL v_form, aI v_symmetries, aR 25], c23, c24, c25] bc bs := by
  refine aw_aload_n K d_Ex_take_0 rfl rfl ?_
  refine aw_getf K fd_Ex_37 d_Ex_take_1 rfl rfl rfl ?_
  refine aw_iload_n K d_Ex_take_4 rfl rfl ?_
  refine aw_aload_n K d_Ex_take_5 rfl rfl ?_
  refine aw_getf K fd_Ex_55 d_Ex_take_6 rfl rfl rfl ?_
  refine aw_iload_n K d_Ex_take_9 rfl rfl ?_
  refine aw_iload_n K d_Ex_take_10 rfl rfl ?_
  refine aw_less [1, 2, 3] rfl ?_
  exact aw_callV K c_St_add cb_Ex_157 ci_St_add cs_St_add hdd_St_add (k := 9) rfl rfl d_Ex_take_11 rfl (av := [aI l1, aR 22, aI l2, aI l3]) rfl (Nat.le_of_ble_eq_true rfl) h (fun rv w' hF => hF)
set_option maxRecDepth 20000 in
theorem x_Ex_take_14 {X : am_X} {dd bc bs : Nat} (K : am_ok X b_Ex_take R_Ex 4 dd) {post : Option am_V → List am_C → Prop} (hr : am_rt X none post) {m_nodes m_states m_kinds m_rules s_size e_ending e_gone e_steps e_stepsBack e_stuck e_stoodFor e_stepsHere v_nodes v_numberings v_size v_symmetries : Int32} {m_badPairs v_form : Int64} {c0 c2 c3 c4 c5 c6 c7 c8 c10 c11 c12 c13 c14 c15 c16 c18 c19 c20 c21 c23 c24 c25 : am_C}
    (h : (v_symmetries ≤ 0 → AW X 48 [some (aR 17), none, none, none] [] [c0, oC 1 [aI m_nodes, aI m_states, aI m_kinds, aI m_rules, aR 2, aR 3, aR 4, aR 5, aR 6, aR 7, aR 8, aL m_badPairs], c2, c3, c4, c5, c6, c7, c8, oC 2 [aI s_size, aR 10, aR 11, aR 12, aR 13, aR 14, aR 15, aR 16], c10, c11, c12, c13, c14, c15, c16, oC 3 [aR 1, aR 9, aI e_ending, aI e_gone, aI e_steps, aI e_stepsBack, aI e_stuck, aI e_stoodFor, aI e_stepsHere, aR 18, aR 22], c18, c19, c20, c21, oC 4 [aI v_nodes, aI v_numberings, aR 23, aR 24, aI v_size, aL v_form, aI v_symmetries, aR 25], c23, c24, c25] bc bs) ∧ (¬ v_symmetries ≤ 0 → ¬ v_symmetries = 0 ∧ AW X 48 [some (aR 17), none, none, none] [] [c0, oC 1 [aI m_nodes, aI m_states, aI m_kinds, aI m_rules, aR 2, aR 3, aR 4, aR 5, aR 6, aR 7, aR 8, aL m_badPairs], c2, c3, c4, c5, c6, c7, c8, oC 2 [aI s_size, aR 10, aR 11, aR 12, aR 13, aR 14, aR 15, aR 16], c10, c11, c12, c13, c14, c15, c16, oC 3 [aR 1, aR 9, aI e_ending, aI e_gone, aI e_steps, aI e_stepsBack, aI e_stuck, aI (e_stoodFor + (v_numberings / v_symmetries)), aI e_stepsHere, aR 18, aR 22], c18, c19, c20, c21, oC 4 [aI v_nodes, aI v_numberings, aR 23, aR 24, aI v_size, aL v_form, aI v_symmetries, aR 25], c23, c24, c25] bc bs)) :
    AW X 14 [some (aR 17), none, none, none] [] [c0, oC 1 [aI m_nodes, aI m_states, aI m_kinds, aI m_rules, aR 2, aR 3, aR 4, aR 5, aR 6, aR 7, aR 8, aL m_badPairs], c2, c3, c4, c5, c6, c7, c8, oC 2 [aI s_size, aR 10, aR 11, aR 12, aR 13, aR 14, aR 15, aR 16], c10, c11, c12, c13, c14, c15, c16, oC 3 [aR 1, aR 9, aI e_ending, aI e_gone, aI e_steps, aI e_stepsBack, aI e_stuck, aI e_stoodFor, aI e_stepsHere, aR 18, aR 22], c18, c19, c20, c21, oC 4 [aI v_nodes, aI v_numberings, aR 23, aR 24, aI v_size, aL v_form, aI v_symmetries, aR 25], c23, c24, c25] bc bs := by
  refine aw_aload_n K d_Ex_take_14 rfl rfl ?_
  refine aw_getf K fd_Ex_55 d_Ex_take_15 rfl rfl rfl ?_
  refine aw_getf K fd_Ex_161 d_Ex_take_18 rfl rfl rfl ?_
  refine aw_if_le K d_Ex_take_21 (t := 48) (by decide) rfl (fun q => ?_) (fun q => ?_)
  · replace h := h.1 q
    exact h
  · replace h := h.2 q
    refine aw_aload_n K d_Ex_take_24 rfl rfl ?_
    refine aw_dup K d_Ex_take_25 rfl (fun _ e => nomatch e) ?_
    refine aw_getf K fd_Ex_27 d_Ex_take_26 rfl rfl rfl ?_
    refine aw_aload_n K d_Ex_take_29 rfl rfl ?_
    refine aw_getf K fd_Ex_55 d_Ex_take_30 rfl rfl rfl ?_
    refine aw_getf K fd_Ex_164 d_Ex_take_33 rfl rfl rfl ?_
    refine aw_aload_n K d_Ex_take_36 rfl rfl ?_
    refine aw_getf K fd_Ex_55 d_Ex_take_37 rfl rfl rfl ?_
    refine aw_getf K fd_Ex_161 d_Ex_take_40 rfl rfl rfl ?_
    refine aw_idiv K d_Ex_take_43 rfl h.1 ?_
    replace h := h.2
    refine aw_iadd K d_Ex_take_44 rfl ?_
    refine aw_putf K fp_Ex_27 d_Ex_take_45 rfl rfl (Nat.le_of_ble_eq_true rfl) (am_fit_i _) (w' := [c0, oC 1 [aI m_nodes, aI m_states, aI m_kinds, aI m_rules, aR 2, aR 3, aR 4, aR 5, aR 6, aR 7, aR 8, aL m_badPairs], c2, c3, c4, c5, c6, c7, c8, oC 2 [aI s_size, aR 10, aR 11, aR 12, aR 13, aR 14, aR 15, aR 16], c10, c11, c12, c13, c14, c15, c16, oC 3 [aR 1, aR 9, aI e_ending, aI e_gone, aI e_steps, aI e_stepsBack, aI e_stuck, aI (e_stoodFor + (v_numberings / v_symmetries)), aI e_stepsHere, aR 18, aR 22], c18, c19, c20, c21, oC 4 [aI v_nodes, aI v_numberings, aR 23, aR 24, aI v_size, aL v_form, aI v_symmetries, aR 25], c23, c24, c25]) rfl ?_
    exact h
set_option maxRecDepth 20000 in
theorem x_Ex_take_48 {X : am_X} {dd bc bs : Nat} (K : am_ok X b_Ex_take R_Ex 4 dd) {post : Option am_V → List am_C → Prop} (hr : am_rt X none post) {sp_Mo_isBadWhole : am_S} {dd_Mo_isBadWhole : Nat} (c_Mo_isBadWhole : Con y_Mo_isBadWhole b_Mo_isBadWhole 4 (some .boolean) dd_Mo_isBadWhole 0 0 false sp_Mo_isBadWhole) (hdd_Mo_isBadWhole : dd_Mo_isBadWhole + 1 ≤ dd) {m_nodes m_states m_kinds m_rules s_size e_ending e_gone e_steps e_stepsBack e_stuck e_stoodFor e_stepsHere v_nodes v_numberings v_size v_symmetries : Int32} {m_badPairs v_form : Int64} {c0 c2 c3 c4 c5 c6 c7 c8 c10 c11 c12 c13 c14 c15 c16 c18 c19 c20 c21 c23 c24 c25 : am_C}
    (h : sp_Mo_isBadWhole [aR 1, aR 22] [c0, oC 1 [aI m_nodes, aI m_states, aI m_kinds, aI m_rules, aR 2, aR 3, aR 4, aR 5, aR 6, aR 7, aR 8, aL m_badPairs], c2, c3, c4, c5, c6, c7, c8, oC 2 [aI s_size, aR 10, aR 11, aR 12, aR 13, aR 14, aR 15, aR 16], c10, c11, c12, c13, c14, c15, c16, oC 3 [aR 1, aR 9, aI e_ending, aI e_gone, aI e_steps, aI e_stepsBack, aI e_stuck, aI e_stoodFor, aI e_stepsHere, aR 18, aR 22], c18, c19, c20, c21, oC 4 [aI v_nodes, aI v_numberings, aR 23, aR 24, aI v_size, aL v_form, aI v_symmetries, aR 25], c23, c24, c25] (fun rv w' => AW X 59 [some (aR 17), none, none, none] (rv.toList ++ []) w' bc bs)) :
    AW X 48 [some (aR 17), none, none, none] [] [c0, oC 1 [aI m_nodes, aI m_states, aI m_kinds, aI m_rules, aR 2, aR 3, aR 4, aR 5, aR 6, aR 7, aR 8, aL m_badPairs], c2, c3, c4, c5, c6, c7, c8, oC 2 [aI s_size, aR 10, aR 11, aR 12, aR 13, aR 14, aR 15, aR 16], c10, c11, c12, c13, c14, c15, c16, oC 3 [aR 1, aR 9, aI e_ending, aI e_gone, aI e_steps, aI e_stepsBack, aI e_stuck, aI e_stoodFor, aI e_stepsHere, aR 18, aR 22], c18, c19, c20, c21, oC 4 [aI v_nodes, aI v_numberings, aR 23, aR 24, aI v_size, aL v_form, aI v_symmetries, aR 25], c23, c24, c25] bc bs := by
  refine aw_aload_n K d_Ex_take_48 rfl rfl ?_
  refine aw_getf K fd_Ex_33 d_Ex_take_49 rfl rfl rfl ?_
  refine aw_aload_n K d_Ex_take_52 rfl rfl ?_
  refine aw_getf K fd_Ex_55 d_Ex_take_53 rfl rfl rfl ?_
  exact aw_callV K c_Mo_isBadWhole cb_Ex_167 ci_Mo_isBadWhole cs_Mo_isBadWhole hdd_Mo_isBadWhole (k := 1) rfl rfl d_Ex_take_56 rfl (av := [aR 22]) rfl (Nat.le_of_ble_eq_true rfl) h (fun rv w' hF => hF)
set_option maxRecDepth 20000 in
theorem x_Ex_take_59 {X : am_X} {dd bc bs : Nat} (K : am_ok X b_Ex_take R_Ex 4 dd) {post : Option am_V → List am_C → Prop} (hr : am_rt X none post) {s0 m_nodes m_states m_kinds m_rules s_size e_ending e_gone e_steps e_stepsBack e_stuck e_stoodFor e_stepsHere v_nodes v_numberings v_size v_symmetries : Int32} {m_badPairs v_form : Int64} {c0 c2 c3 c4 c5 c6 c7 c8 c10 c11 c12 c13 c14 c15 c16 c18 c19 c20 c21 c23 c24 c25 : am_C}
    (h : (s0 = 0 → post none [c0, oC 1 [aI m_nodes, aI m_states, aI m_kinds, aI m_rules, aR 2, aR 3, aR 4, aR 5, aR 6, aR 7, aR 8, aL m_badPairs], c2, c3, c4, c5, c6, c7, c8, oC 2 [aI s_size, aR 10, aR 11, aR 12, aR 13, aR 14, aR 15, aR 16], c10, c11, c12, c13, c14, c15, c16, oC 3 [aR 1, aR 9, aI e_ending, aI e_gone, aI e_steps, aI e_stepsBack, aI e_stuck, aI e_stoodFor, aI e_stepsHere, aR 18, aR 22], c18, c19, c20, c21, oC 4 [aI v_nodes, aI v_numberings, aR 23, aR 24, aI v_size, aL v_form, aI v_symmetries, aR 25], c23, c24, c25]) ∧ (¬ s0 = 0 → post none [c0, oC 1 [aI m_nodes, aI m_states, aI m_kinds, aI m_rules, aR 2, aR 3, aR 4, aR 5, aR 6, aR 7, aR 8, aL m_badPairs], c2, c3, c4, c5, c6, c7, c8, oC 2 [aI s_size, aR 10, aR 11, aR 12, aR 13, aR 14, aR 15, aR 16], c10, c11, c12, c13, c14, c15, c16, oC 3 [aR 1, aR 9, aI ((-2)), aI e_gone, aI e_steps, aI e_stepsBack, aI e_stuck, aI e_stoodFor, aI e_stepsHere, aR 18, aR 22], c18, c19, c20, c21, oC 4 [aI v_nodes, aI v_numberings, aR 23, aR 24, aI v_size, aL v_form, aI v_symmetries, aR 25], c23, c24, c25])) :
    AW X 59 [some (aR 17), none, none, none] [aI s0] [c0, oC 1 [aI m_nodes, aI m_states, aI m_kinds, aI m_rules, aR 2, aR 3, aR 4, aR 5, aR 6, aR 7, aR 8, aL m_badPairs], c2, c3, c4, c5, c6, c7, c8, oC 2 [aI s_size, aR 10, aR 11, aR 12, aR 13, aR 14, aR 15, aR 16], c10, c11, c12, c13, c14, c15, c16, oC 3 [aR 1, aR 9, aI e_ending, aI e_gone, aI e_steps, aI e_stepsBack, aI e_stuck, aI e_stoodFor, aI e_stepsHere, aR 18, aR 22], c18, c19, c20, c21, oC 4 [aI v_nodes, aI v_numberings, aR 23, aR 24, aI v_size, aL v_form, aI v_symmetries, aR 25], c23, c24, c25] bc bs := by
  refine aw_if_eq K d_Ex_take_59 (t := 68) (by decide) rfl (fun q => ?_) (fun q => ?_)
  · replace h := h.1 q
    exact aw_vret K hr d_Ex_take_68 h
  · replace h := h.2 q
    refine aw_aload_n K d_Ex_take_62 rfl rfl ?_
    refine aw_bipush K d_Ex_take_63 rfl (v := (-2)) (by decide) ?_
    refine aw_putf K fp_Ex_9 d_Ex_take_65 rfl rfl (Nat.le_of_ble_eq_true rfl) (am_fit_i _) (w' := [c0, oC 1 [aI m_nodes, aI m_states, aI m_kinds, aI m_rules, aR 2, aR 3, aR 4, aR 5, aR 6, aR 7, aR 8, aL m_badPairs], c2, c3, c4, c5, c6, c7, c8, oC 2 [aI s_size, aR 10, aR 11, aR 12, aR 13, aR 14, aR 15, aR 16], c10, c11, c12, c13, c14, c15, c16, oC 3 [aR 1, aR 9, aI ((-2)), aI e_gone, aI e_steps, aI e_stepsBack, aI e_stuck, aI e_stoodFor, aI e_stepsHere, aR 18, aR 22], c18, c19, c20, c21, oC 4 [aI v_nodes, aI v_numberings, aR 23, aR 24, aI v_size, aL v_form, aI v_symmetries, aR 25], c23, c24, c25]) rfl ?_
    exact aw_vret K hr d_Ex_take_68 h
set_option maxRecDepth 20000 in
theorem x_SE_run_0 {X : am_X} {dd bc bs : Nat} (K : am_ok X b_SE_run R_SE 1 dd) {post : Option am_V → List am_C → Prop} (hr : am_rt X (some .int) post) {sp_Ex_goOn : am_S} {dd_Ex_goOn : Nat} (c_Ex_goOn : Con y_Ex_goOn b_Ex_goOn 3 none dd_Ex_goOn 0 0 false sp_Ex_goOn) (hdd_Ex_goOn : dd_Ex_goOn + 1 ≤ dd) {s_size e_ending e_gone e_steps e_stepsBack e_stuck e_stoodFor e_stepsHere : Int32} {c1 c2 c3 c4 c5 c6 c7 c8 c10 c11 c12 c13 c14 c15 c16 c18 c19 c20 c21 c22 c23 c24 c25 : am_C}
    (h : sp_Ex_goOn [aR 17, aI 8192] [oC 0 [aR 1, aR 9, aR 17], c1, c2, c3, c4, c5, c6, c7, c8, oC 2 [aI s_size, aR 10, aR 11, aR 12, aR 13, aR 14, aR 15, aR 16], c10, c11, c12, c13, c14, c15, c16, oC 3 [aR 1, aR 9, aI e_ending, aI e_gone, aI e_steps, aI e_stepsBack, aI e_stuck, aI e_stoodFor, aI e_stepsHere, aR 18, aR 22], c18, c19, c20, c21, c22, c23, c24, c25] (fun rv w' => AW X 10 [some (aR 0)] (rv.toList ++ []) w' bc bs)) :
    AW X 0 [some (aR 0)] [] [oC 0 [aR 1, aR 9, aR 17], c1, c2, c3, c4, c5, c6, c7, c8, oC 2 [aI s_size, aR 10, aR 11, aR 12, aR 13, aR 14, aR 15, aR 16], c10, c11, c12, c13, c14, c15, c16, oC 3 [aR 1, aR 9, aI e_ending, aI e_gone, aI e_steps, aI e_stepsBack, aI e_stuck, aI e_stoodFor, aI e_stepsHere, aR 18, aR 22], c18, c19, c20, c21, c22, c23, c24, c25] bc bs := by
  refine aw_aload_n K d_SE_run_0 rfl rfl ?_
  refine aw_getf K fd_SE_36 d_SE_run_1 rfl rfl rfl ?_
  refine aw_sipush K d_SE_run_4 rfl (v := 8192) (by decide) ?_
  exact aw_callV K c_Ex_goOn cb_SE_108 ci_Ex_goOn cs_Ex_goOn hdd_Ex_goOn (k := 17) rfl rfl d_SE_run_7 rfl (av := [aI 8192]) rfl (Nat.le_of_ble_eq_true rfl) h (fun rv w' hF => hF)
set_option maxRecDepth 20000 in
theorem x_SE_run_10 {X : am_X} {dd bc bs : Nat} (K : am_ok X b_SE_run R_SE 1 dd) {post : Option am_V → List am_C → Prop} (hr : am_rt X (some .int) post) {s_size e_ending e_gone e_steps e_stepsBack e_stuck e_stoodFor e_stepsHere : Int32} {c1 c2 c3 c4 c5 c6 c7 c8 c10 c11 c12 c13 c14 c15 c16 c18 c19 c20 c21 c22 c23 c24 c25 : am_C}
    (h : (¬ e_ending = 0 → post (some (aI e_ending)) [oC 0 [aR 1, aR 9, aR 17], c1, c2, c3, c4, c5, c6, c7, c8, oC 2 [aI s_size, aR 10, aR 11, aR 12, aR 13, aR 14, aR 15, aR 16], c10, c11, c12, c13, c14, c15, c16, oC 3 [aR 1, aR 9, aI e_ending, aI e_gone, aI e_steps, aI e_stepsBack, aI e_stuck, aI e_stoodFor, aI e_stepsHere, aR 18, aR 22], c18, c19, c20, c21, c22, c23, c24, c25]) ∧ (e_ending = 0 → post (some (aI s_size)) [oC 0 [aR 1, aR 9, aR 17], c1, c2, c3, c4, c5, c6, c7, c8, oC 2 [aI s_size, aR 10, aR 11, aR 12, aR 13, aR 14, aR 15, aR 16], c10, c11, c12, c13, c14, c15, c16, oC 3 [aR 1, aR 9, aI e_ending, aI e_gone, aI e_steps, aI e_stepsBack, aI e_stuck, aI e_stoodFor, aI e_stepsHere, aR 18, aR 22], c18, c19, c20, c21, c22, c23, c24, c25])) :
    AW X 10 [some (aR 0)] [] [oC 0 [aR 1, aR 9, aR 17], c1, c2, c3, c4, c5, c6, c7, c8, oC 2 [aI s_size, aR 10, aR 11, aR 12, aR 13, aR 14, aR 15, aR 16], c10, c11, c12, c13, c14, c15, c16, oC 3 [aR 1, aR 9, aI e_ending, aI e_gone, aI e_steps, aI e_stepsBack, aI e_stuck, aI e_stoodFor, aI e_stepsHere, aR 18, aR 22], c18, c19, c20, c21, c22, c23, c24, c25] bc bs := by
  refine aw_aload_n K d_SE_run_10 rfl rfl ?_
  refine aw_getf K fd_SE_36 d_SE_run_11 rfl rfl rfl ?_
  refine aw_getf K fd_SE_111 d_SE_run_14 rfl rfl rfl ?_
  refine aw_if_ne K d_SE_run_17 (t := 30) (by decide) rfl (fun q => ?_) (fun q => ?_)
  · replace h := h.1 q
    refine aw_aload_n K d_SE_run_30 rfl rfl ?_
    refine aw_getf K fd_SE_36 d_SE_run_31 rfl rfl rfl ?_
    refine aw_getf K fd_SE_111 d_SE_run_34 rfl rfl rfl ?_
    exact aw_iret K hr d_SE_run_37 h
  · replace h := h.2 q
    refine aw_aload_n K d_SE_run_20 rfl rfl ?_
    refine aw_getf K fd_SE_27 d_SE_run_21 rfl rfl rfl ?_
    refine aw_getf K fd_SE_114 d_SE_run_24 rfl rfl rfl ?_
    refine aw_goto K d_SE_run_27 (n := 37) (by decide) ?_
    exact aw_iret K hr d_SE_run_37 h
set_option maxRecDepth 20000 in
theorem x_SE_way_0 {X : am_X} {dd bc bs : Nat} (K : am_ok X b_SE_way R_SE 1 dd) {post : Option am_V → List am_C → Prop} (hr : am_rt X (some .int) post) {sp_St_greatestLevel : am_S} {dd_St_greatestLevel : Nat} (c_St_greatestLevel : Con y_St_greatestLevel b_St_greatestLevel 1 (some .int) dd_St_greatestLevel 0 0 false sp_St_greatestLevel) (hdd_St_greatestLevel : dd_St_greatestLevel + 1 ≤ dd) {s_size e_ending e_gone e_steps e_stepsBack e_stuck e_stoodFor e_stepsHere : Int32} {c1 c2 c3 c4 c5 c6 c7 c8 c10 c11 c12 c13 c14 c15 c16 c18 c19 c20 c21 c22 c23 c24 c25 : am_C}
    (h : (¬ e_ending = ((-2)) → post (some (aI ((-1)))) [oC 0 [aR 1, aR 9, aR 17], c1, c2, c3, c4, c5, c6, c7, c8, oC 2 [aI s_size, aR 10, aR 11, aR 12, aR 13, aR 14, aR 15, aR 16], c10, c11, c12, c13, c14, c15, c16, oC 3 [aR 1, aR 9, aI e_ending, aI e_gone, aI e_steps, aI e_stepsBack, aI e_stuck, aI e_stoodFor, aI e_stepsHere, aR 18, aR 22], c18, c19, c20, c21, c22, c23, c24, c25]) ∧ (e_ending = ((-2)) → sp_St_greatestLevel [aR 9] [oC 0 [aR 1, aR 9, aR 17], c1, c2, c3, c4, c5, c6, c7, c8, oC 2 [aI s_size, aR 10, aR 11, aR 12, aR 13, aR 14, aR 15, aR 16], c10, c11, c12, c13, c14, c15, c16, oC 3 [aR 1, aR 9, aI e_ending, aI e_gone, aI e_steps, aI e_stepsBack, aI e_stuck, aI e_stoodFor, aI e_stepsHere, aR 18, aR 22], c18, c19, c20, c21, c22, c23, c24, c25] (fun rv w' => AW X 19 [none] (rv.toList ++ []) w' bc bs))) :
    AW X 0 [some (aR 0)] [] [oC 0 [aR 1, aR 9, aR 17], c1, c2, c3, c4, c5, c6, c7, c8, oC 2 [aI s_size, aR 10, aR 11, aR 12, aR 13, aR 14, aR 15, aR 16], c10, c11, c12, c13, c14, c15, c16, oC 3 [aR 1, aR 9, aI e_ending, aI e_gone, aI e_steps, aI e_stepsBack, aI e_stuck, aI e_stoodFor, aI e_stepsHere, aR 18, aR 22], c18, c19, c20, c21, c22, c23, c24, c25] bc bs := by
  refine aw_aload_n K d_SE_way_0 rfl rfl ?_
  refine aw_getf K fd_SE_36 d_SE_way_1 rfl rfl rfl ?_
  refine aw_getf K fd_SE_111 d_SE_way_4 rfl rfl rfl ?_
  refine aw_bipush K d_SE_way_7 rfl (v := (-2)) (by decide) ?_
  refine aw_icmp_ne K d_SE_way_9 (t := 22) (by decide) rfl (fun q => ?_) (fun q => ?_)
  · replace h := h.1 q
    refine aw_iconst K d_SE_way_22 rfl (v := (-1)) (by decide) ?_
    exact aw_iret K hr d_SE_way_23 h
  · replace h := h.2 q
    refine aw_aload_n K d_SE_way_12 rfl rfl ?_
    refine aw_getf K fd_SE_27 d_SE_way_13 rfl rfl rfl ?_
    refine aw_less [0] rfl ?_
    exact aw_callV K c_St_greatestLevel cb_SE_165 ci_St_greatestLevel cs_St_greatestLevel hdd_St_greatestLevel (k := 9) rfl rfl d_SE_way_16 rfl (av := []) rfl (Nat.le_of_ble_eq_true rfl) h (fun rv w' hF => hF)
set_option maxRecDepth 20000 in
theorem x_SE_way_19 {X : am_X} {dd bc bs : Nat} (K : am_ok X b_SE_way R_SE 1 dd) {post : Option am_V → List am_C → Prop} (hr : am_rt X (some .int) post) {s0 s_size e_ending e_gone e_steps e_stepsBack e_stuck e_stoodFor e_stepsHere : Int32} {c1 c2 c3 c4 c5 c6 c7 c8 c10 c11 c12 c13 c14 c15 c16 c18 c19 c20 c21 c22 c23 c24 c25 : am_C}
    (h : post (some (aI s0)) [oC 0 [aR 1, aR 9, aR 17], c1, c2, c3, c4, c5, c6, c7, c8, oC 2 [aI s_size, aR 10, aR 11, aR 12, aR 13, aR 14, aR 15, aR 16], c10, c11, c12, c13, c14, c15, c16, oC 3 [aR 1, aR 9, aI e_ending, aI e_gone, aI e_steps, aI e_stepsBack, aI e_stuck, aI e_stoodFor, aI e_stepsHere, aR 18, aR 22], c18, c19, c20, c21, c22, c23, c24, c25]) :
    AW X 19 [none] [aI s0] [oC 0 [aR 1, aR 9, aR 17], c1, c2, c3, c4, c5, c6, c7, c8, oC 2 [aI s_size, aR 10, aR 11, aR 12, aR 13, aR 14, aR 15, aR 16], c10, c11, c12, c13, c14, c15, c16, oC 3 [aR 1, aR 9, aI e_ending, aI e_gone, aI e_steps, aI e_stepsBack, aI e_stuck, aI e_stoodFor, aI e_stepsHere, aR 18, aR 22], c18, c19, c20, c21, c22, c23, c24, c25] bc bs := by
  refine aw_goto K d_SE_way_19 (n := 23) (by decide) ?_
  exact aw_iret K hr d_SE_way_23 h
set_option maxRecDepth 20000 in
theorem x_SE_count_0 {X : am_X} {dd bc bs : Nat} (K : am_ok X b_SE_count R_SE 2 dd) {post : Option am_V → List am_C → Prop} (hr : am_rt X (some .int) post) {sp_St_greatestLevel : am_S} {dd_St_greatestLevel : Nat} (c_St_greatestLevel : Con y_St_greatestLevel b_St_greatestLevel 1 (some .int) dd_St_greatestLevel 0 0 false sp_St_greatestLevel) (hdd_St_greatestLevel : dd_St_greatestLevel + 1 ≤ dd) {l1 m_nodes m_states m_kinds m_rules s_size e_ending e_gone e_steps e_stepsBack e_stuck e_stoodFor e_stepsHere : Int32} {m_badPairs : Int64} {c2 c3 c4 c5 c6 c7 c8 c10 c11 c12 c13 c14 c15 c16 c18 c19 c20 c21 c22 c23 c24 c25 : am_C}
    (h : (l1 = 0 → post (some (aI m_nodes)) [oC 0 [aR 1, aR 9, aR 17], oC 1 [aI m_nodes, aI m_states, aI m_kinds, aI m_rules, aR 2, aR 3, aR 4, aR 5, aR 6, aR 7, aR 8, aL m_badPairs], c2, c3, c4, c5, c6, c7, c8, oC 2 [aI s_size, aR 10, aR 11, aR 12, aR 13, aR 14, aR 15, aR 16], c10, c11, c12, c13, c14, c15, c16, oC 3 [aR 1, aR 9, aI e_ending, aI e_gone, aI e_steps, aI e_stepsBack, aI e_stuck, aI e_stoodFor, aI e_stepsHere, aR 18, aR 22], c18, c19, c20, c21, c22, c23, c24, c25]) ∧ (l1 = 1 → post (some (aI m_states)) [oC 0 [aR 1, aR 9, aR 17], oC 1 [aI m_nodes, aI m_states, aI m_kinds, aI m_rules, aR 2, aR 3, aR 4, aR 5, aR 6, aR 7, aR 8, aL m_badPairs], c2, c3, c4, c5, c6, c7, c8, oC 2 [aI s_size, aR 10, aR 11, aR 12, aR 13, aR 14, aR 15, aR 16], c10, c11, c12, c13, c14, c15, c16, oC 3 [aR 1, aR 9, aI e_ending, aI e_gone, aI e_steps, aI e_stepsBack, aI e_stuck, aI e_stoodFor, aI e_stepsHere, aR 18, aR 22], c18, c19, c20, c21, c22, c23, c24, c25]) ∧ (l1 = 2 → post (some (aI m_kinds)) [oC 0 [aR 1, aR 9, aR 17], oC 1 [aI m_nodes, aI m_states, aI m_kinds, aI m_rules, aR 2, aR 3, aR 4, aR 5, aR 6, aR 7, aR 8, aL m_badPairs], c2, c3, c4, c5, c6, c7, c8, oC 2 [aI s_size, aR 10, aR 11, aR 12, aR 13, aR 14, aR 15, aR 16], c10, c11, c12, c13, c14, c15, c16, oC 3 [aR 1, aR 9, aI e_ending, aI e_gone, aI e_steps, aI e_stepsBack, aI e_stuck, aI e_stoodFor, aI e_stepsHere, aR 18, aR 22], c18, c19, c20, c21, c22, c23, c24, c25]) ∧ (l1 = 3 → post (some (aI m_rules)) [oC 0 [aR 1, aR 9, aR 17], oC 1 [aI m_nodes, aI m_states, aI m_kinds, aI m_rules, aR 2, aR 3, aR 4, aR 5, aR 6, aR 7, aR 8, aL m_badPairs], c2, c3, c4, c5, c6, c7, c8, oC 2 [aI s_size, aR 10, aR 11, aR 12, aR 13, aR 14, aR 15, aR 16], c10, c11, c12, c13, c14, c15, c16, oC 3 [aR 1, aR 9, aI e_ending, aI e_gone, aI e_steps, aI e_stepsBack, aI e_stuck, aI e_stoodFor, aI e_stepsHere, aR 18, aR 22], c18, c19, c20, c21, c22, c23, c24, c25]) ∧ (l1 = 4 → post (some (aI s_size)) [oC 0 [aR 1, aR 9, aR 17], oC 1 [aI m_nodes, aI m_states, aI m_kinds, aI m_rules, aR 2, aR 3, aR 4, aR 5, aR 6, aR 7, aR 8, aL m_badPairs], c2, c3, c4, c5, c6, c7, c8, oC 2 [aI s_size, aR 10, aR 11, aR 12, aR 13, aR 14, aR 15, aR 16], c10, c11, c12, c13, c14, c15, c16, oC 3 [aR 1, aR 9, aI e_ending, aI e_gone, aI e_steps, aI e_stepsBack, aI e_stuck, aI e_stoodFor, aI e_stepsHere, aR 18, aR 22], c18, c19, c20, c21, c22, c23, c24, c25]) ∧ (l1 = 5 → post (some (aI e_gone)) [oC 0 [aR 1, aR 9, aR 17], oC 1 [aI m_nodes, aI m_states, aI m_kinds, aI m_rules, aR 2, aR 3, aR 4, aR 5, aR 6, aR 7, aR 8, aL m_badPairs], c2, c3, c4, c5, c6, c7, c8, oC 2 [aI s_size, aR 10, aR 11, aR 12, aR 13, aR 14, aR 15, aR 16], c10, c11, c12, c13, c14, c15, c16, oC 3 [aR 1, aR 9, aI e_ending, aI e_gone, aI e_steps, aI e_stepsBack, aI e_stuck, aI e_stoodFor, aI e_stepsHere, aR 18, aR 22], c18, c19, c20, c21, c22, c23, c24, c25]) ∧ (l1 = 6 → sp_St_greatestLevel [aR 9] [oC 0 [aR 1, aR 9, aR 17], oC 1 [aI m_nodes, aI m_states, aI m_kinds, aI m_rules, aR 2, aR 3, aR 4, aR 5, aR 6, aR 7, aR 8, aL m_badPairs], c2, c3, c4, c5, c6, c7, c8, oC 2 [aI s_size, aR 10, aR 11, aR 12, aR 13, aR 14, aR 15, aR 16], c10, c11, c12, c13, c14, c15, c16, oC 3 [aR 1, aR 9, aI e_ending, aI e_gone, aI e_steps, aI e_stepsBack, aI e_stuck, aI e_stoodFor, aI e_stepsHere, aR 18, aR 22], c18, c19, c20, c21, c22, c23, c24, c25] (fun rv w' => AW X 115 [none, none] (rv.toList ++ []) w' bc bs)) ∧ (l1 = 7 → post (some (aI e_steps)) [oC 0 [aR 1, aR 9, aR 17], oC 1 [aI m_nodes, aI m_states, aI m_kinds, aI m_rules, aR 2, aR 3, aR 4, aR 5, aR 6, aR 7, aR 8, aL m_badPairs], c2, c3, c4, c5, c6, c7, c8, oC 2 [aI s_size, aR 10, aR 11, aR 12, aR 13, aR 14, aR 15, aR 16], c10, c11, c12, c13, c14, c15, c16, oC 3 [aR 1, aR 9, aI e_ending, aI e_gone, aI e_steps, aI e_stepsBack, aI e_stuck, aI e_stoodFor, aI e_stepsHere, aR 18, aR 22], c18, c19, c20, c21, c22, c23, c24, c25]) ∧ (l1 = 8 → post (some (aI e_stepsBack)) [oC 0 [aR 1, aR 9, aR 17], oC 1 [aI m_nodes, aI m_states, aI m_kinds, aI m_rules, aR 2, aR 3, aR 4, aR 5, aR 6, aR 7, aR 8, aL m_badPairs], c2, c3, c4, c5, c6, c7, c8, oC 2 [aI s_size, aR 10, aR 11, aR 12, aR 13, aR 14, aR 15, aR 16], c10, c11, c12, c13, c14, c15, c16, oC 3 [aR 1, aR 9, aI e_ending, aI e_gone, aI e_steps, aI e_stepsBack, aI e_stuck, aI e_stoodFor, aI e_stepsHere, aR 18, aR 22], c18, c19, c20, c21, c22, c23, c24, c25]) ∧ (l1 = 9 → post (some (aI e_stuck)) [oC 0 [aR 1, aR 9, aR 17], oC 1 [aI m_nodes, aI m_states, aI m_kinds, aI m_rules, aR 2, aR 3, aR 4, aR 5, aR 6, aR 7, aR 8, aL m_badPairs], c2, c3, c4, c5, c6, c7, c8, oC 2 [aI s_size, aR 10, aR 11, aR 12, aR 13, aR 14, aR 15, aR 16], c10, c11, c12, c13, c14, c15, c16, oC 3 [aR 1, aR 9, aI e_ending, aI e_gone, aI e_steps, aI e_stepsBack, aI e_stuck, aI e_stoodFor, aI e_stepsHere, aR 18, aR 22], c18, c19, c20, c21, c22, c23, c24, c25]) ∧ (l1 = 10 → post (some (aI e_stoodFor)) [oC 0 [aR 1, aR 9, aR 17], oC 1 [aI m_nodes, aI m_states, aI m_kinds, aI m_rules, aR 2, aR 3, aR 4, aR 5, aR 6, aR 7, aR 8, aL m_badPairs], c2, c3, c4, c5, c6, c7, c8, oC 2 [aI s_size, aR 10, aR 11, aR 12, aR 13, aR 14, aR 15, aR 16], c10, c11, c12, c13, c14, c15, c16, oC 3 [aR 1, aR 9, aI e_ending, aI e_gone, aI e_steps, aI e_stepsBack, aI e_stuck, aI e_stoodFor, aI e_stepsHere, aR 18, aR 22], c18, c19, c20, c21, c22, c23, c24, c25]) ∧ (l1.toInt < 0 ∨ 10 < l1.toInt → post (some (aI ((-1)))) [oC 0 [aR 1, aR 9, aR 17], oC 1 [aI m_nodes, aI m_states, aI m_kinds, aI m_rules, aR 2, aR 3, aR 4, aR 5, aR 6, aR 7, aR 8, aL m_badPairs], c2, c3, c4, c5, c6, c7, c8, oC 2 [aI s_size, aR 10, aR 11, aR 12, aR 13, aR 14, aR 15, aR 16], c10, c11, c12, c13, c14, c15, c16, oC 3 [aR 1, aR 9, aI e_ending, aI e_gone, aI e_steps, aI e_stepsBack, aI e_stuck, aI e_stoodFor, aI e_stepsHere, aR 18, aR 22], c18, c19, c20, c21, c22, c23, c24, c25])) :
    AW X 0 [some (aR 0), some (aI l1)] [] [oC 0 [aR 1, aR 9, aR 17], oC 1 [aI m_nodes, aI m_states, aI m_kinds, aI m_rules, aR 2, aR 3, aR 4, aR 5, aR 6, aR 7, aR 8, aL m_badPairs], c2, c3, c4, c5, c6, c7, c8, oC 2 [aI s_size, aR 10, aR 11, aR 12, aR 13, aR 14, aR 15, aR 16], c10, c11, c12, c13, c14, c15, c16, oC 3 [aR 1, aR 9, aI e_ending, aI e_gone, aI e_steps, aI e_stepsBack, aI e_stuck, aI e_stoodFor, aI e_stepsHere, aR 18, aR 22], c18, c19, c20, c21, c22, c23, c24, c25] bc bs := by
  refine aw_iload_n K d_SE_count_0 rfl rfl ?_
  refine aw_tsw K d_SE_count_1 (fun j hj e => ?_) (fun e => ⟨148, by decide, ?_⟩)
  · rcases (show j = 0 ∨ j = 1 ∨ j = 2 ∨ j = 3 ∨ j = 4 ∨ j = 5 ∨ j = 6 ∨ j = 7 ∨ j = 8 ∨ j = 9 ∨ j = 10 by omega) with rfl | rfl | rfl | rfl | rfl | rfl | rfl | rfl | rfl | rfl | rfl
    · have q : l1 = 0 := Int32.toInt_inj.mp (by rw [e]; rfl)
      refine ⟨_, 60, rfl, by decide, ?_⟩
      replace h := h.1 q
      refine aw_aload_n K d_SE_count_60 rfl rfl ?_
      refine aw_getf K fd_SE_20 d_SE_count_61 rfl rfl rfl ?_
      refine aw_getf K fd_SE_122 d_SE_count_64 rfl rfl rfl ?_
      exact aw_iret K hr d_SE_count_67 h
    · have q : l1 = 1 := Int32.toInt_inj.mp (by rw [e]; rfl)
      refine ⟨_, 68, rfl, by decide, ?_⟩
      replace h := h.2.1 q
      refine aw_aload_n K d_SE_count_68 rfl rfl ?_
      refine aw_getf K fd_SE_20 d_SE_count_69 rfl rfl rfl ?_
      refine aw_getf K fd_SE_40 d_SE_count_72 rfl rfl rfl ?_
      exact aw_iret K hr d_SE_count_75 h
    · have q : l1 = 2 := Int32.toInt_inj.mp (by rw [e]; rfl)
      refine ⟨_, 76, rfl, by decide, ?_⟩
      replace h := h.2.2.1 q
      refine aw_aload_n K d_SE_count_76 rfl rfl ?_
      refine aw_getf K fd_SE_20 d_SE_count_77 rfl rfl rfl ?_
      refine aw_getf K fd_SE_54 d_SE_count_80 rfl rfl rfl ?_
      exact aw_iret K hr d_SE_count_83 h
    · have q : l1 = 3 := Int32.toInt_inj.mp (by rw [e]; rfl)
      refine ⟨_, 84, rfl, by decide, ?_⟩
      replace h := h.2.2.2.1 q
      refine aw_aload_n K d_SE_count_84 rfl rfl ?_
      refine aw_getf K fd_SE_20 d_SE_count_85 rfl rfl rfl ?_
      refine aw_getf K fd_SE_73 d_SE_count_88 rfl rfl rfl ?_
      exact aw_iret K hr d_SE_count_91 h
    · have q : l1 = 4 := Int32.toInt_inj.mp (by rw [e]; rfl)
      refine ⟨_, 92, rfl, by decide, ?_⟩
      replace h := h.2.2.2.2.1 q
      refine aw_aload_n K d_SE_count_92 rfl rfl ?_
      refine aw_getf K fd_SE_27 d_SE_count_93 rfl rfl rfl ?_
      refine aw_getf K fd_SE_114 d_SE_count_96 rfl rfl rfl ?_
      exact aw_iret K hr d_SE_count_99 h
    · have q : l1 = 5 := Int32.toInt_inj.mp (by rw [e]; rfl)
      refine ⟨_, 100, rfl, by decide, ?_⟩
      replace h := h.2.2.2.2.2.1 q
      refine aw_aload_n K d_SE_count_100 rfl rfl ?_
      refine aw_getf K fd_SE_36 d_SE_count_101 rfl rfl rfl ?_
      refine aw_getf K fd_SE_175 d_SE_count_104 rfl rfl rfl ?_
      exact aw_iret K hr d_SE_count_107 h
    · have q : l1 = 6 := Int32.toInt_inj.mp (by rw [e]; rfl)
      refine ⟨_, 108, rfl, by decide, ?_⟩
      replace h := h.2.2.2.2.2.2.1 q
      refine aw_aload_n K d_SE_count_108 rfl rfl ?_
      refine aw_getf K fd_SE_27 d_SE_count_109 rfl rfl rfl ?_
      refine aw_less [0, 1] rfl ?_
      exact aw_callV K c_St_greatestLevel cb_SE_165 ci_St_greatestLevel cs_St_greatestLevel hdd_St_greatestLevel (k := 9) rfl rfl d_SE_count_112 rfl (av := []) rfl (Nat.le_of_ble_eq_true rfl) h (fun rv w' hF => hF)
    · have q : l1 = 7 := Int32.toInt_inj.mp (by rw [e]; rfl)
      refine ⟨_, 116, rfl, by decide, ?_⟩
      replace h := h.2.2.2.2.2.2.2.1 q
      refine aw_aload_n K d_SE_count_116 rfl rfl ?_
      refine aw_getf K fd_SE_36 d_SE_count_117 rfl rfl rfl ?_
      refine aw_getf K fd_SE_178 d_SE_count_120 rfl rfl rfl ?_
      exact aw_iret K hr d_SE_count_123 h
    · have q : l1 = 8 := Int32.toInt_inj.mp (by rw [e]; rfl)
      refine ⟨_, 124, rfl, by decide, ?_⟩
      replace h := h.2.2.2.2.2.2.2.2.1 q
      refine aw_aload_n K d_SE_count_124 rfl rfl ?_
      refine aw_getf K fd_SE_36 d_SE_count_125 rfl rfl rfl ?_
      refine aw_getf K fd_SE_180 d_SE_count_128 rfl rfl rfl ?_
      exact aw_iret K hr d_SE_count_131 h
    · have q : l1 = 9 := Int32.toInt_inj.mp (by rw [e]; rfl)
      refine ⟨_, 132, rfl, by decide, ?_⟩
      replace h := h.2.2.2.2.2.2.2.2.2.1 q
      refine aw_aload_n K d_SE_count_132 rfl rfl ?_
      refine aw_getf K fd_SE_36 d_SE_count_133 rfl rfl rfl ?_
      refine aw_getf K fd_SE_183 d_SE_count_136 rfl rfl rfl ?_
      exact aw_iret K hr d_SE_count_139 h
    · have q : l1 = 10 := Int32.toInt_inj.mp (by rw [e]; rfl)
      refine ⟨_, 140, rfl, by decide, ?_⟩
      replace h := h.2.2.2.2.2.2.2.2.2.2.1 q
      refine aw_aload_n K d_SE_count_140 rfl rfl ?_
      refine aw_getf K fd_SE_36 d_SE_count_141 rfl rfl rfl ?_
      refine aw_getf K fd_SE_186 d_SE_count_144 rfl rfl rfl ?_
      exact aw_iret K hr d_SE_count_147 h
  · replace h := h.2.2.2.2.2.2.2.2.2.2.2 e
    refine aw_iconst K d_SE_count_148 rfl (v := (-1)) (by decide) ?_
    exact aw_iret K hr d_SE_count_149 h
set_option maxRecDepth 20000 in
theorem x_SE_count_115 {X : am_X} {dd bc bs : Nat} (K : am_ok X b_SE_count R_SE 2 dd) {post : Option am_V → List am_C → Prop} (hr : am_rt X (some .int) post) {s0 m_nodes m_states m_kinds m_rules s_size e_ending e_gone e_steps e_stepsBack e_stuck e_stoodFor e_stepsHere : Int32} {m_badPairs : Int64} {c2 c3 c4 c5 c6 c7 c8 c10 c11 c12 c13 c14 c15 c16 c18 c19 c20 c21 c22 c23 c24 c25 : am_C}
    (h : post (some (aI s0)) [oC 0 [aR 1, aR 9, aR 17], oC 1 [aI m_nodes, aI m_states, aI m_kinds, aI m_rules, aR 2, aR 3, aR 4, aR 5, aR 6, aR 7, aR 8, aL m_badPairs], c2, c3, c4, c5, c6, c7, c8, oC 2 [aI s_size, aR 10, aR 11, aR 12, aR 13, aR 14, aR 15, aR 16], c10, c11, c12, c13, c14, c15, c16, oC 3 [aR 1, aR 9, aI e_ending, aI e_gone, aI e_steps, aI e_stepsBack, aI e_stuck, aI e_stoodFor, aI e_stepsHere, aR 18, aR 22], c18, c19, c20, c21, c22, c23, c24, c25]) :
    AW X 115 [none, none] [aI s0] [oC 0 [aR 1, aR 9, aR 17], oC 1 [aI m_nodes, aI m_states, aI m_kinds, aI m_rules, aR 2, aR 3, aR 4, aR 5, aR 6, aR 7, aR 8, aL m_badPairs], c2, c3, c4, c5, c6, c7, c8, oC 2 [aI s_size, aR 10, aR 11, aR 12, aR 13, aR 14, aR 15, aR 16], c10, c11, c12, c13, c14, c15, c16, oC 3 [aR 1, aR 9, aI e_ending, aI e_gone, aI e_steps, aI e_stepsBack, aI e_stuck, aI e_stoodFor, aI e_stepsHere, aR 18, aR 22], c18, c19, c20, c21, c22, c23, c24, c25] bc bs := by
  exact aw_iret K hr d_SE_count_115 h

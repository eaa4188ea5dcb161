/-! ===== THE LAW: its loop, its beginning ===== -/
theorem lw_sub4 {L : Nat} (h : L ≤ 2050) : (nI L - 4).toInt = (L : Int) - 4 := by
  rw [Int32.toInt_sub, nI_toInt (by omega), show (4 : Int32).toInt = 4 from rfl, fm_bm (by omega) (by omega)]
set_option maxRecDepth 20000 in
theorem lw_loop {X : am_X} (K : am_ok X code R_La 7 10) (hE : am_ex X) {b0 L : Nat} {xs : Nat → Int32} (hsc : am_sc X b0 L xs) (hL : L ≤ 2050) (hret : ∀ lv w bc bs, AW X 820 lv [] w bc bs) {room e : Nat} :
    ∀ (t i : Nat) (R : sp_R) (E : sp_E) (w1 w2 : List am_C) (th : Int32) (f : Nat → Int64), L < i + 4 + 4 * t → i ≤ 2050 → rx R room e E w1 → rm R room E th w2 → ez E → AW X 43 (lw_lv i) [] (lw_w w1 w2 f) t (6 * t) := by
  intro t
  induction t with
  | zero =>
    intro i R E w1 w2 th f ht hi hw1 hw2 hz
    refine aw_iload K d_La_law_43 rfl rfl ?_
    refine aw_aload_n K d_La_law_45 rfl rfl ?_
    refine aw_slen K hsc d_La_law_46 rfl ?_
    refine aw_iconst K d_La_law_47 rfl (v := 4) (by decide) ?_
    refine aw_isub K d_La_law_48 rfl ?_
    refine aw_icmp_gt K d_La_law_49 (t := 820) (by decide) rfl (fun _ => hret _ _ _ _) (fun z => absurd ?_ z)
    rw [Int32.lt_iff_toInt_lt, lw_sub4 hL, nI_toInt (by omega)]
    omega
  | succ t ih =>
    intro i R E w1 w2 th f ht hi hw1 hw2 hz
    refine aw_iload K d_La_law_43 rfl rfl ?_
    refine aw_aload_n K d_La_law_45 rfl rfl ?_
    refine aw_slen K hsc d_La_law_46 rfl ?_
    refine aw_iconst K d_La_law_47 rfl (v := 4) (by decide) ?_
    refine aw_isub K d_La_law_48 rfl ?_
    refine aw_icmp_gt K d_La_law_49 (t := 820) (by decide) rfl (fun _ => hret _ _ _ _) (fun z => ?_)
    rw [Int32.lt_iff_toInt_lt, lw_sub4 hL, nI_toInt (by omega)] at z
    have hi3 : i + 3 < L := by omega
    have kk : ∀ (R' : sp_R) (E' : sp_E) (w1' w2' : List am_C) (th' : Int32) (f' : Nat → Int64), rx R' room e E' w1' → rm R' room E' th' w2' → ez E' → AW X 814 (lw_lv i) [] (lw_w w1' w2' f') (t + 1 - 1) (6 * (t + 1) - 6) := by
      intro R' E' w1' w2' th' f' g1 g2 g3
      refine aw_iinc K d_La_law_814 rfl rfl (v := nI (i + 4)) (nI_add i 4) (by decide) (lv' := lw_lv (i + 4)) rfl ?_
      refine aw_goto K d_La_law_817 (n := 43) (by decide) ?_
      rw [show 6 * (t + 1) - 6 = 6 * t by omega]
      exact ih (i + 4) R' E' w1' w2' th' f' (by omega) (by omega) g1 g2 g3
    have hc1 : 1 ≤ t + 1 := by omega
    have hc2 : 6 ≤ 6 * (t + 1) := by omega
    have hdef : AW X 814 (lw_lv i) [] (lw_w w1 w2 f) (t + 1) (6 * (t + 1)) := aw_bud (Nat.sub_le _ 1) (Nat.sub_le _ 6) (kk R E w1 w2 th f hw1 hw2 hz)
    refine aw_aload_n K d_La_law_52 rfl rfl ?_
    refine aw_iload K d_La_law_53 rfl rfl ?_
    refine aw_sld K hsc d_La_law_55 rfl (vp_in_nI (by omega) (by omega)) ?_
    refine aw_bipush K d_La_law_56 rfl (v := 15) (by decide) ?_
    refine aw_iand K d_La_law_58 rfl ?_
    refine aw_tsw K d_La_law_59 ?_ (fun _ => ⟨814, by decide, hdef⟩)
    intro j hj _
    have hj' : j ≤ 12 := by omega
    match j, hj' with
    | 0, _ => exact ⟨65, 124, rfl, by decide, op_state K hE hsc hL hi3 hw1 hw2 hz hc1 hc2 kk⟩
    | 1, _ => exact ⟨109, 168, rfl, by decide, op_message K hE hsc hL hi3 hw1 hw2 hz hc1 hc2 kk⟩
    | 2, _ => exact ⟨153, 212, rfl, by decide, op_rule K hE hsc hL hi3 hw1 hw2 hz hc1 hc2 kk⟩
    | 3, _ => exact ⟨233, 292, rfl, by decide, op_sends K hE hsc hL hi3 hw1 hw2 hz hc1 hc2 kk⟩
    | 4, _ => exact ⟨313, 372, rfl, by decide, op_bad K hE hsc hL hi3 hw1 hw2 hz hc1 hc2 kk⟩
    | 5, _ => exact ⟨388, 447, rfl, by decide, op_run K hE hsc hL hi3 hw1 hw2 hz hc1 hc2 kk⟩
    | 6, _ => exact ⟨401, 460, rfl, by decide, op_go K hE hsc hL hi3 hw1 hw2 hz hc1 hc2 kk⟩
    | 7, _ => exact ⟨457, 516, rfl, by decide, op_node K hE hsc hL hi3 hw1 hw2 hz hc1 hc2 kk⟩
    | 8, _ => exact ⟨525, 584, rfl, by decide, op_code K hE hsc hL hi3 hw1 hw2 hz hc1 hc2 kk⟩
    | 9, _ => exact ⟨593, 652, rfl, by decide, op_whole K hE hsc hL hi3 hw1 hw2 hz hc1 hc2 kk⟩
    | 10, _ => exact ⟨661, 720, rfl, by decide, op_way K hE hsc hL hi3 hw1 hw2 hz hc1 hc2 kk⟩
    | 11, _ => exact ⟨674, 733, rfl, by decide, op_wayAt K hE hsc hL hi3 hw1 hw2 hz hc1 hc2 kk⟩
    | 12, _ => exact ⟨730, 789, rfl, by decide, op_count K hE hsc hL hi3 hw1 hw2 hz hc1 hc2 kk⟩
    | (j + 13), h => exact absurd h (by omega)
theorem rx_cl {R : sp_R} {room e : Nat} {E : sp_E} {w : List am_C} (hw : rx R room e E w) : w.all (am_fc 26) = true ∧ w.all (am_fc 45) = true := by
  obtain ⟨here, uz, us, uc, bp, uf, vf, uy, vz, vy, ms, me, mt, mn, mk, mw, mg, le, og, ru, sp, sy, sa, uo, vs, vc, vo, fo, rfl, -⟩ := hw
  exact ⟨rfl, rfl⟩
theorem rm_cl {R : sp_R} {room : Nat} {E : sp_E} {th : Int32} {w : List am_C} (hw : rm R room E th w) : (w.map (sh_c 26)).all (am_fc 45) = true := by
  obtain ⟨sm, at9, o, nx, ls, bw, xf, xe, xt, xn, xk, xw, xb, nm, ro, od, le, pa, br, so, al, ot, rfl, -⟩ := hw
  rfl
theorem lw_m0 (w : List am_C) : [] ++ (w.map (sh_c ([] : List am_C).length) ++ []) = w := by
  rw [List.nil_append, List.append_nil]
  exact sh_w0 w
theorem nw_La_8 : am_nw R_La 8 0 3 [aN, aN, aN] := ⟨R_SE, F_SE, t_SE, rfl, us_SE, t_SE_ok, ax_mem (by decide +kernel), ax_mem (by decide +kernel), ax_mem (by decide +kernel), fun ad j hj => match j, hj with | 0, _ => rfl | 1, _ => rfl | 2, _ => rfl | (j + 3), h => absurd h (by omega), rfl⟩
theorem nw_La_59 : am_nw R_La 59 5 34 [aI 0, aI 0, aI 0, aI 0, aI 0, aI 0, aN, aN, aN, aN, aN, aN, aN, aN, aI 0, aI 0, aI 0, aI 0, aI 0, aI 0, aI 0, aI 0, aN, aN, aN, aN, aN, aN, aN, aN, aN, aN, aI 0, aI 0] := ⟨R_RM, F_RM, t_RM, rfl, us_RM, t_RM_ok, ax_mem (by decide +kernel), ax_mem (by decide +kernel), ax_mem (by decide +kernel), fun ad j hj => match j, hj with | 0, _ => rfl | 1, _ => rfl | 2, _ => rfl | 3, _ => rfl | 4, _ => rfl | 5, _ => rfl | 6, _ => rfl | 7, _ => rfl | 8, _ => rfl | 9, _ => rfl | 10, _ => rfl | 11, _ => rfl | 12, _ => rfl | 13, _ => rfl | 14, _ => rfl | 15, _ => rfl | 16, _ => rfl | 17, _ => rfl | 18, _ => rfl | 19, _ => rfl | 20, _ => rfl | 21, _ => rfl | 22, _ => rfl | 23, _ => rfl | 24, _ => rfl | 25, _ => rfl | 26, _ => rfl | 27, _ => rfl | 28, _ => rfl | 29, _ => rfl | 30, _ => rfl | 31, _ => rfl | 32, _ => rfl | 33, _ => rfl | (j + 34), h => absurd h (by omega), rfl⟩
theorem cb_La_50 : am_cB R_La 50 y_La_cell b_La_cell 2 (some .int) 2 := ⟨ax_mem (by decide +kernel), ax_mem (by decide +kernel), ax_mem (by decide +kernel), by decide +kernel, by decide⟩
theorem cb_La_56 : am_cB R_La 56 y_SE_init b_SE_init 3 none 2 := ⟨ax_mem (by decide +kernel), ax_mem (by decide +kernel), ax_mem (by decide +kernel), by decide +kernel, by decide⟩
theorem cb_La_61 : am_cB R_La 61 y_RM_init b_RM_init 6 none 2 := ⟨ax_mem (by decide +kernel), ax_mem (by decide +kernel), ax_mem (by decide +kernel), by decide +kernel, by decide⟩
theorem cii_SE_init : Cond.instanceMethod y_SE_init ∈ am_T := ax_mem (by decide +kernel)
theorem cii_RM_init : Cond.instanceMethod y_RM_init ∈ am_T := ax_mem (by decide +kernel)
theorem ct_La_cell : Cond.static y_La_cell ∈ am_T := ax_mem (by decide +kernel)
set_option maxRecDepth 20000 in
theorem lw_begin {X : am_X} (K : am_ok X code R_La 7 10) (hE : am_ex X) {b0 L : Nat} {xs : Nat → Int32} (hsc : am_sc X b0 L xs) (hal : am_alS X 0) (hL : L ≤ 2050) (hret : ∀ lv w bc bs, AW X 820 lv [] w bc bs) :
    AW X 0 [some (aR 1000), none, none, none, none, none, none] [] [] 600000 7000000 := by
  refine aw_newS K hal nw_La_8 d_La_law_0 rfl (by decide) (by decide) rfl (by decide) (fun _ _ _ h => by simp [am_l, am_v, h]) rfl ?_
  show AW X 3 _ [aR 0] [oC 0 [aN, aN, aN]] _ _
  refine aw_dup K d_La_law_3 rfl (fun _ e => nomatch e) ?_
  refine aw_aload_n K d_La_law_4 rfl rfl ?_
  refine aw_iconst K d_La_law_5 rfl (v := 0) (by decide) ?_
  refine aw_cell K hsc cb_La_50 ct_La_cell (by decide) d_La_law_6 rfl (Nat.le_of_ble_eq_true rfl) (by decide) (by omega) ?_
  refine aw_aload_n K d_La_law_9 rfl rfl ?_
  refine aw_iconst K d_La_law_10 rfl (v := 1) (by decide) ?_
  refine aw_cell K hsc cb_La_50 ct_La_cell (by decide) d_La_law_11 rfl (Nat.le_of_ble_eq_true rfl) (by decide) (by omega) ?_
  obtain ⟨a, ha⟩ : ∃ a, a = lw_cl xs L 0 := ⟨_, rfl⟩
  obtain ⟨b, hb⟩ : ∃ b, b = lw_cl xs L 1 := ⟨_, rfl⟩
  rw [← ha, ← hb]
  refine aw_callIFS K (pre := []) (wc := [oC 0 [aN, aN, aN]]) hal c_SE_init cb_La_56 cii_SE_init rfl (by decide) rfl rfl d_La_law_14 rfl (k := 0) (av := [aI a, aI b]) rfl (Nat.le_of_ble_eq_true rfl) (by decide) (by decide) (fun _ _ _ h => by simp [am_l, am_v, h]) rfl (F := fun rv w9 => rv = none ∧ ∃ e, rx (R0 (o_md (a - 1) 4 + 1)) (o_md (b - 1) 8192 + 1) e E0 w9) ⟨a, b, rfl, rfl, fun w9 e h9 => ⟨rfl, e, h9⟩⟩ ?_ (fun _ _ h => h.1)
  intro w1 hF
  obtain ⟨-, e, hw1⟩ := hF
  have h1 := rx_len hw1
  obtain ⟨hq1, hq2⟩ := rx_cl hw1
  rw [lw_m0]
  refine ⟨⟨by rw [h1]; exact hq1, by rw [h1]; decide, by decide⟩, ?_⟩
  refine aw_astore_n K d_La_law_17 rfl (by decide) (lv' := [some (aR 1000), some (aR 0), none, none, none, none, none]) rfl ?_
  refine aw_newS K (hal.mono (Nat.zero_le _)) nw_La_59 d_La_law_18 rfl (by decide) (by decide) (by rw [h1]; exact hq1) (by rw [h1]; decide) (fun _ _ g h => by simp [am_l, am_v, h, g 0 (by omega)]) rfl ?_
  rw [h1]
  refine aw_dup K d_La_law_21 rfl (fun _ e => nomatch e) ?_
  refine aw_aload_n K d_La_law_22 rfl rfl ?_
  refine aw_iconst K d_La_law_23 rfl (v := 0) (by decide) ?_
  refine aw_cell K hsc cb_La_50 ct_La_cell (by decide) d_La_law_24 rfl (Nat.le_of_ble_eq_true rfl) (by decide) (by omega) ?_
  refine aw_aload_n K d_La_law_27 rfl rfl ?_
  refine aw_iconst K d_La_law_28 rfl (v := 1) (by decide) ?_
  refine aw_cell K hsc cb_La_50 ct_La_cell (by decide) d_La_law_29 rfl (Nat.le_of_ble_eq_true rfl) (by decide) (by omega) ?_
  rw [← ha, ← hb]
  have hfi : fr_in w1 [oC 5 [aI 0, aI 0, aI 0, aI 0, aI 0, aI 0, aN, aN, aN, aN, aN, aN, aN, aN, aI 0, aI 0, aI 0, aI 0, aI 0, aI 0, aI 0, aI 0, aN, aN, aN, aN, aN, aN, aN, aN, aN, aN, aI 0, aI 0]] [] (w1 ++ [oC 5 [aI 0, aI 0, aI 0, aI 0, aI 0, aI 0, aN, aN, aN, aN, aN, aN, aN, aN, aI 0, aI 0, aI 0, aI 0, aI 0, aI 0, aI 0, aI 0, aN, aN, aN, aN, aN, aN, aN, aN, aN, aN, aI 0, aI 0]]) := rfl
  have hl27 : (w1 ++ [oC 5 [aI 0, aI 0, aI 0, aI 0, aI 0, aI 0, aN, aN, aN, aN, aN, aN, aN, aN, aI 0, aI 0, aI 0, aI 0, aI 0, aI 0, aI 0, aI 0, aN, aN, aN, aN, aN, aN, aN, aN, aN, aN, aI 0, aI 0]]).length = 27 := by rw [List.length_append, h1]; rfl
  refine aw_callIFS K (pre := w1) (wc := [oC 5 [aI 0, aI 0, aI 0, aI 0, aI 0, aI 0, aN, aN, aN, aN, aN, aN, aN, aN, aI 0, aI 0, aI 0, aI 0, aI 0, aI 0, aI 0, aI 0, aN, aN, aN, aN, aN, aN, aN, aN, aN, aN, aI 0, aI 0]]) (hal.mono (Nat.zero_le _)) c_RM_init cb_La_61 cii_RM_init rfl (by decide) hfi (by rw [h1]; exact hq1) d_La_law_32 rfl (k := 0) (av := [aI a, aI b]) (by rw [h1]; rfl) (Nat.le_of_ble_eq_true rfl) (by decide) (by decide) (fun _ _ g h => by simp [am_l, am_v, h, g 0 (by omega)]) (by rw [hl27]; rfl) (F := fun rv w9 => rv = none ∧ rm (R0 (o_md (a - 1) 4 + 1)) (o_md (b - 1) 8192 + 1) E0 0 w9) ⟨a, b, rfl, rfl, fun w9 h9 => ⟨rfl, h9⟩⟩ ?_ (fun _ _ h => h.1)
  intro w2 hF
  obtain ⟨-, hw2⟩ := hF
  have h2 := (rm_vs hw2).2.2.2
  have hq3 := rm_cl hw2
  rw [h1, List.append_nil]
  have hl45 : (w1 ++ w2.map (sh_c 26)).length = 45 := by rw [List.length_append, List.length_map, h1, h2]
  have hq4 : (w1 ++ w2.map (sh_c 26)).all (am_fc 45) = true := by rw [List.all_append, hq2, hq3]; rfl
  refine ⟨⟨by rw [hl45]; exact hq4, by rw [hl45]; decide, by rw [hl27]; decide⟩, ?_⟩
  refine aw_astore_n K d_La_law_35 rfl (by decide) (lv' := [some (aR 1000), some (aR 0), some (aR 26), none, none, none, none]) rfl ?_
  refine aw_iconst K d_La_law_36 rfl (v := 1) (by decide) ?_
  refine aw_newlS K (hal.mono (Nat.zero_le _)) d_La_law_37 rfl wa_long (N' := 1) (by decide) (by decide) (by decide) (by decide) (by decide) (by rw [hl45]; exact hq4) (by rw [hl45]; decide) (fun _ _ g h => by simp [am_l, am_v, h, g 0 (by omega), g 26 (by omega)]) rfl ?_
  rw [hl45, List.append_assoc]
  refine aw_astore_n K d_La_law_39 rfl (by decide) (lv' := [some (aR 1000), some (aR 0), some (aR 26), some (aR 45), none, none, none]) rfl ?_
  refine aw_iconst K d_La_law_40 rfl (v := 2) (by decide) ?_
  refine aw_istore K d_La_law_41 rfl (by decide) (lv' := lw_lv 2) rfl ?_
  refine aw_bud (bc' := 512) (bs' := 6 * 512) (by decide) (by decide) ?_
  exact lw_loop K hE hsc hL hret 512 2 _ _ w1 w2 0 _ (by omega) (by decide) hw1 hw2 (ez_0 _ _ _ _ _ _)

/-! ===== the reference's constructor ===== -/
theorem fp_RM_76 : am_fp R_RM 76 5 14 .int false := ⟨R_RM, F_RM, 34, t_RM, rfl, by decide, fd_RM_76w, us_RM, t_RM_ok, n_RM, rfl, (fun h => nomatch h), by decide +kernel⟩
set_option maxRecDepth 20000 in
theorem x_RM_init_187 {X : am_X} {dd bc bs : Nat} (K : am_ok X b_RM_init R_RM 6 dd) {post : Option am_V → List am_C → Prop} (hr : am_rt X none post) {l3 x_thrown x_nodes x_room x_states x_kinds x_rules x_numberings x_wholes x_gone x_steps x_old x_stuck x_answer x_badWhole x_same x_at : Int32} {x_numbering : Nat → Int32} {c1 c2 c3 c4 c5 c6 c7 c9 c10 c11 c12 c13 c14 c15 c16 c17 c18 : am_C}
    (h : (256 ≤ l3 → post none [oC 5 [aI x_thrown, aI x_nodes, aI x_room, aI x_states, aI x_kinds, aI x_rules, aR 1, aR 2, aR 3, aR 4, aR 5, aR 6, aR 7, aR 8, aI x_numberings, aI x_wholes, aI x_gone, aI x_steps, aI x_old, aI x_stuck, aI x_answer, aI x_badWhole, aR 9, aR 10, aR 11, aR 12, aR 13, aR 14, aR 15, aR 16, aR 17, aR 18, aI x_same, aI x_at], c1, c2, c3, c4, c5, c6, c7, iC 96 x_numbering, c9, c10, c11, c12, c13, c14, c15, c16, c17, c18]) ∧ (¬ 256 ≤ l3 → AW X 200 [some (aR 0), none, none, some (aI l3), some (aI 0), some (aI 0)] [] [oC 5 [aI x_thrown, aI x_nodes, aI x_room, aI x_states, aI x_kinds, aI x_rules, aR 1, aR 2, aR 3, aR 4, aR 5, aR 6, aR 7, aR 8, aI x_numberings, aI x_wholes, aI x_gone, aI x_steps, aI x_old, aI x_stuck, aI x_answer, aI x_badWhole, aR 9, aR 10, aR 11, aR 12, aR 13, aR 14, aR 15, aR 16, aR 17, aR 18, aI x_same, aI x_at], c1, c2, c3, c4, c5, c6, c7, iC 96 x_numbering, c9, c10, c11, c12, c13, c14, c15, c16, c17, c18] bc bs)) :
    AW X 187 [some (aR 0), none, none, some (aI l3), none, none] [] [oC 5 [aI x_thrown, aI x_nodes, aI x_room, aI x_states, aI x_kinds, aI x_rules, aR 1, aR 2, aR 3, aR 4, aR 5, aR 6, aR 7, aR 8, aI x_numberings, aI x_wholes, aI x_gone, aI x_steps, aI x_old, aI x_stuck, aI x_answer, aI x_badWhole, aR 9, aR 10, aR 11, aR 12, aR 13, aR 14, aR 15, aR 16, aR 17, aR 18, aI x_same, aI x_at], c1, c2, c3, c4, c5, c6, c7, iC 96 x_numbering, c9, c10, c11, c12, c13, c14, c15, c16, c17, c18] bc bs := by
  refine aw_iload_n K d_RM_init_187 rfl rfl ?_
  refine aw_sipush K d_RM_init_188 rfl (v := 256) (by decide) ?_
  refine aw_icmp_ge K d_RM_init_191 (t := 313) (by decide) rfl (fun q => ?_) (fun q => ?_)
  · replace h := h.1 q
    exact aw_vret K hr d_RM_init_313 h
  · replace h := h.2 q
    refine aw_iconst K d_RM_init_194 rfl (v := 0) (by decide) ?_
    refine aw_istore K d_RM_init_195 rfl (by decide) (lv' := [some (aR 0), none, none, some (aI l3), some (aI 0), none]) rfl ?_
    refine aw_iconst K d_RM_init_197 rfl (v := 0) (by decide) ?_
    refine aw_istore K d_RM_init_198 rfl (by decide) (lv' := [some (aR 0), none, none, some (aI l3), some (aI 0), some (aI 0)]) rfl ?_
    exact h
set_option maxRecDepth 20000 in
theorem x_RM_init_200 {X : am_X} {dd bc bs : Nat} (K : am_ok X b_RM_init R_RM 6 dd) {post : Option am_V → List am_C → Prop} (hr : am_rt X none post) {l3 l4 l5 x_thrown x_nodes x_room x_states x_kinds x_rules x_numberings x_wholes x_gone x_steps x_old x_stuck x_answer x_badWhole x_same x_at : Int32} {x_numbering : Nat → Int32} {c1 c2 c3 c4 c5 c6 c7 c9 c10 c11 c12 c13 c14 c15 c16 c17 c18 : am_C}
    (h : (x_nodes ≤ l5 → (¬ l4 = (((1 : Int32) <<< (x_nodes &&& 31)) - (1 : Int32)) → AW X 187 [some (aR 0), none, none, some (aI (l3 + 1)), none, none] [] [oC 5 [aI x_thrown, aI x_nodes, aI x_room, aI x_states, aI x_kinds, aI x_rules, aR 1, aR 2, aR 3, aR 4, aR 5, aR 6, aR 7, aR 8, aI x_numberings, aI x_wholes, aI x_gone, aI x_steps, aI x_old, aI x_stuck, aI x_answer, aI x_badWhole, aR 9, aR 10, aR 11, aR 12, aR 13, aR 14, aR 15, aR 16, aR 17, aR 18, aI x_same, aI x_at], c1, c2, c3, c4, c5, c6, c7, iC 96 x_numbering, c9, c10, c11, c12, c13, c14, c15, c16, c17, c18] bc bs) ∧ (l4 = (((1 : Int32) <<< (x_nodes &&& 31)) - (1 : Int32)) → ((l3 >>> (((2 : Int32) * x_nodes) &&& 31)) ≤ 0 → AW X 260 [some (aR 0), none, none, some (aI l3), none, some (aI 0)] [] [oC 5 [aI x_thrown, aI x_nodes, aI x_room, aI x_states, aI x_kinds, aI x_rules, aR 1, aR 2, aR 3, aR 4, aR 5, aR 6, aR 7, aR 8, aI x_numberings, aI x_wholes, aI x_gone, aI x_steps, aI x_old, aI x_stuck, aI x_answer, aI x_badWhole, aR 9, aR 10, aR 11, aR 12, aR 13, aR 14, aR 15, aR 16, aR 17, aR 18, aI x_same, aI x_at], c1, c2, c3, c4, c5, c6, c7, iC 96 x_numbering, c9, c10, c11, c12, c13, c14, c15, c16, c17, c18] bc bs) ∧ (¬ (l3 >>> (((2 : Int32) * x_nodes) &&& 31)) ≤ 0 → AW X 187 [some (aR 0), none, none, some (aI (l3 + 1)), none, none] [] [oC 5 [aI x_thrown, aI x_nodes, aI x_room, aI x_states, aI x_kinds, aI x_rules, aR 1, aR 2, aR 3, aR 4, aR 5, aR 6, aR 7, aR 8, aI x_numberings, aI x_wholes, aI x_gone, aI x_steps, aI x_old, aI x_stuck, aI x_answer, aI x_badWhole, aR 9, aR 10, aR 11, aR 12, aR 13, aR 14, aR 15, aR 16, aR 17, aR 18, aI x_same, aI x_at], c1, c2, c3, c4, c5, c6, c7, iC 96 x_numbering, c9, c10, c11, c12, c13, c14, c15, c16, c17, c18] bc bs))) ∧ (¬ x_nodes ≤ l5 → AW X 200 [some (aR 0), none, none, some (aI l3), some (aI (l4 ||| ((1 : Int32) <<< (((l3 >>> (((2 : Int32) * l5) &&& 31)) &&& (3 : Int32)) &&& 31)))), some (aI (l5 + 1))] [] [oC 5 [aI x_thrown, aI x_nodes, aI x_room, aI x_states, aI x_kinds, aI x_rules, aR 1, aR 2, aR 3, aR 4, aR 5, aR 6, aR 7, aR 8, aI x_numberings, aI x_wholes, aI x_gone, aI x_steps, aI x_old, aI x_stuck, aI x_answer, aI x_badWhole, aR 9, aR 10, aR 11, aR 12, aR 13, aR 14, aR 15, aR 16, aR 17, aR 18, aI x_same, aI x_at], c1, c2, c3, c4, c5, c6, c7, iC 96 x_numbering, c9, c10, c11, c12, c13, c14, c15, c16, c17, c18] bc bs)) :
    AW X 200 [some (aR 0), none, none, some (aI l3), some (aI l4), some (aI l5)] [] [oC 5 [aI x_thrown, aI x_nodes, aI x_room, aI x_states, aI x_kinds, aI x_rules, aR 1, aR 2, aR 3, aR 4, aR 5, aR 6, aR 7, aR 8, aI x_numberings, aI x_wholes, aI x_gone, aI x_steps, aI x_old, aI x_stuck, aI x_answer, aI x_badWhole, aR 9, aR 10, aR 11, aR 12, aR 13, aR 14, aR 15, aR 16, aR 17, aR 18, aI x_same, aI x_at], c1, c2, c3, c4, c5, c6, c7, iC 96 x_numbering, c9, c10, c11, c12, c13, c14, c15, c16, c17, c18] bc bs := by
  refine aw_iload K d_RM_init_200 rfl rfl ?_
  refine aw_aload_n K d_RM_init_202 rfl rfl ?_
  refine aw_getf K fd_RM_70 d_RM_init_203 rfl rfl rfl ?_
  refine aw_icmp_ge K d_RM_init_206 (t := 230) (by decide) rfl (fun q => ?_) (fun q => ?_)
  · replace h := h.1 q
    refine aw_iload K d_RM_init_230 rfl rfl ?_
    refine aw_iconst K d_RM_init_232 rfl (v := 1) (by decide) ?_
    refine aw_aload_n K d_RM_init_233 rfl rfl ?_
    refine aw_getf K fd_RM_70 d_RM_init_234 rfl rfl rfl ?_
    refine aw_ishl K d_RM_init_237 rfl ?_
    refine aw_iconst K d_RM_init_238 rfl (v := 1) (by decide) ?_
    refine aw_isub K d_RM_init_239 rfl ?_
    refine aw_icmp_ne K d_RM_init_240 (t := 307) (by decide) rfl (fun q => ?_) (fun q => ?_)
    · replace h := h.1 q
      refine aw_iinc K d_RM_init_307 rfl rfl (v := l3 + 1) rfl (by decide) (lv' := [some (aR 0), none, none, some (aI (l3 + 1)), some (aI l4), some (aI l5)]) rfl ?_
      refine aw_goto K d_RM_init_310 (n := 187) (by decide) ?_
      refine aw_less [4, 5] rfl ?_
      exact h
    · replace h := h.2 q
      refine aw_iload_n K d_RM_init_243 rfl rfl ?_
      refine aw_iconst K d_RM_init_244 rfl (v := 2) (by decide) ?_
      refine aw_aload_n K d_RM_init_245 rfl rfl ?_
      refine aw_getf K fd_RM_70 d_RM_init_246 rfl rfl rfl ?_
      refine aw_imul K d_RM_init_249 rfl ?_
      refine aw_ishr K d_RM_init_250 rfl ?_
      refine aw_if_le K d_RM_init_251 (t := 257) (by decide) rfl (fun q => ?_) (fun q => ?_)
      · replace h := h.1 q
        refine aw_iconst K d_RM_init_257 rfl (v := 0) (by decide) ?_
        refine aw_istore K d_RM_init_258 rfl (by decide) (lv' := [some (aR 0), none, none, some (aI l3), some (aI l4), some (aI 0)]) rfl ?_
        refine aw_less [4] rfl ?_
        exact h
      · replace h := h.2 q
        refine aw_goto K d_RM_init_254 (n := 307) (by decide) ?_
        refine aw_iinc K d_RM_init_307 rfl rfl (v := l3 + 1) rfl (by decide) (lv' := [some (aR 0), none, none, some (aI (l3 + 1)), some (aI l4), some (aI l5)]) rfl ?_
        refine aw_goto K d_RM_init_310 (n := 187) (by decide) ?_
        refine aw_less [4, 5] rfl ?_
        exact h
  · replace h := h.2 q
    refine aw_iload K d_RM_init_209 rfl rfl ?_
    refine aw_iconst K d_RM_init_211 rfl (v := 1) (by decide) ?_
    refine aw_iload_n K d_RM_init_212 rfl rfl ?_
    refine aw_iconst K d_RM_init_213 rfl (v := 2) (by decide) ?_
    refine aw_iload K d_RM_init_214 rfl rfl ?_
    refine aw_imul K d_RM_init_216 rfl ?_
    refine aw_ishr K d_RM_init_217 rfl ?_
    refine aw_iconst K d_RM_init_218 rfl (v := 3) (by decide) ?_
    refine aw_iand K d_RM_init_219 rfl ?_
    refine aw_ishl K d_RM_init_220 rfl ?_
    refine aw_ior K d_RM_init_221 rfl ?_
    refine aw_istore K d_RM_init_222 rfl (by decide) (lv' := [some (aR 0), none, none, some (aI l3), some (aI (l4 ||| ((1 : Int32) <<< (((l3 >>> (((2 : Int32) * l5) &&& 31)) &&& (3 : Int32)) &&& 31)))), some (aI l5)]) rfl ?_
    refine aw_iinc K d_RM_init_224 rfl rfl (v := l5 + 1) rfl (by decide) (lv' := [some (aR 0), none, none, some (aI l3), some (aI (l4 ||| ((1 : Int32) <<< (((l3 >>> (((2 : Int32) * l5) &&& 31)) &&& (3 : Int32)) &&& 31)))), some (aI (l5 + 1))]) rfl ?_
    refine aw_goto K d_RM_init_227 (n := 200) (by decide) ?_
    exact h
set_option maxRecDepth 20000 in
theorem x_RM_init_260 {X : am_X} {dd bc bs : Nat} (K : am_ok X b_RM_init R_RM 6 dd) {post : Option am_V → List am_C → Prop} (hr : am_rt X none post) {l3 l5 x_thrown x_nodes x_room x_states x_kinds x_rules x_numberings x_wholes x_gone x_steps x_old x_stuck x_answer x_badWhole x_same x_at : Int32} {x_numbering : Nat → Int32} {c1 c2 c3 c4 c5 c6 c7 c9 c10 c11 c12 c13 c14 c15 c16 c17 c18 : am_C}
    (h : (x_nodes ≤ l5 → AW X 187 [some (aR 0), none, none, some (aI (l3 + 1)), none, none] [] [oC 5 [aI x_thrown, aI x_nodes, aI x_room, aI x_states, aI x_kinds, aI x_rules, aR 1, aR 2, aR 3, aR 4, aR 5, aR 6, aR 7, aR 8, aI (x_numberings + (1 : Int32)), aI x_wholes, aI x_gone, aI x_steps, aI x_old, aI x_stuck, aI x_answer, aI x_badWhole, aR 9, aR 10, aR 11, aR 12, aR 13, aR 14, aR 15, aR 16, aR 17, aR 18, aI x_same, aI x_at], c1, c2, c3, c4, c5, c6, c7, iC 96 x_numbering, c9, c10, c11, c12, c13, c14, c15, c16, c17, c18] bc bs) ∧ (¬ x_nodes ≤ l5 → vp_in (((4 : Int32) * x_numberings) + l5) 96 ∧ AW X 260 [some (aR 0), none, none, some (aI l3), none, some (aI (l5 + 1))] [] [oC 5 [aI x_thrown, aI x_nodes, aI x_room, aI x_states, aI x_kinds, aI x_rules, aR 1, aR 2, aR 3, aR 4, aR 5, aR 6, aR 7, aR 8, aI x_numberings, aI x_wholes, aI x_gone, aI x_steps, aI x_old, aI x_stuck, aI x_answer, aI x_badWhole, aR 9, aR 10, aR 11, aR 12, aR 13, aR 14, aR 15, aR 16, aR 17, aR 18, aI x_same, aI x_at], c1, c2, c3, c4, c5, c6, c7, iC 96 (upd x_numbering (((4 : Int32) * x_numberings) + l5).toNatClampNeg ((l3 >>> (((2 : Int32) * l5) &&& 31)) &&& (3 : Int32))), c9, c10, c11, c12, c13, c14, c15, c16, c17, c18] bc bs)) :
    AW X 260 [some (aR 0), none, none, some (aI l3), none, some (aI l5)] [] [oC 5 [aI x_thrown, aI x_nodes, aI x_room, aI x_states, aI x_kinds, aI x_rules, aR 1, aR 2, aR 3, aR 4, aR 5, aR 6, aR 7, aR 8, aI x_numberings, aI x_wholes, aI x_gone, aI x_steps, aI x_old, aI x_stuck, aI x_answer, aI x_badWhole, aR 9, aR 10, aR 11, aR 12, aR 13, aR 14, aR 15, aR 16, aR 17, aR 18, aI x_same, aI x_at], c1, c2, c3, c4, c5, c6, c7, iC 96 x_numbering, c9, c10, c11, c12, c13, c14, c15, c16, c17, c18] bc bs := by
  refine aw_iload K d_RM_init_260 rfl rfl ?_
  refine aw_aload_n K d_RM_init_262 rfl rfl ?_
  refine aw_getf K fd_RM_70 d_RM_init_263 rfl rfl rfl ?_
  refine aw_icmp_ge K d_RM_init_266 (t := 297) (by decide) rfl (fun q => ?_) (fun q => ?_)
  · replace h := h.1 q
    refine aw_aload_n K d_RM_init_297 rfl rfl ?_
    refine aw_dup K d_RM_init_298 rfl (fun _ e => nomatch e) ?_
    refine aw_getf K fd_RM_76 d_RM_init_299 rfl rfl rfl ?_
    refine aw_iconst K d_RM_init_302 rfl (v := 1) (by decide) ?_
    refine aw_iadd K d_RM_init_303 rfl ?_
    refine aw_putf K fp_RM_76 d_RM_init_304 rfl rfl (Nat.le_of_ble_eq_true rfl) (am_fit_i _) (w' := [oC 5 [aI x_thrown, aI x_nodes, aI x_room, aI x_states, aI x_kinds, aI x_rules, aR 1, aR 2, aR 3, aR 4, aR 5, aR 6, aR 7, aR 8, aI (x_numberings + (1 : Int32)), aI x_wholes, aI x_gone, aI x_steps, aI x_old, aI x_stuck, aI x_answer, aI x_badWhole, aR 9, aR 10, aR 11, aR 12, aR 13, aR 14, aR 15, aR 16, aR 17, aR 18, aI x_same, aI x_at], c1, c2, c3, c4, c5, c6, c7, iC 96 x_numbering, c9, c10, c11, c12, c13, c14, c15, c16, c17, c18]) rfl ?_
    refine aw_iinc K d_RM_init_307 rfl rfl (v := l3 + 1) rfl (by decide) (lv' := [some (aR 0), none, none, some (aI (l3 + 1)), none, some (aI l5)]) rfl ?_
    refine aw_goto K d_RM_init_310 (n := 187) (by decide) ?_
    refine aw_less [5] rfl ?_
    exact h
  · replace h := h.2 q
    refine aw_aload_n K d_RM_init_269 rfl rfl ?_
    refine aw_getf K fd_RM_36 d_RM_init_270 rfl rfl rfl ?_
    refine aw_iconst K d_RM_init_273 rfl (v := 4) (by decide) ?_
    refine aw_aload_n K d_RM_init_274 rfl rfl ?_
    refine aw_getf K fd_RM_76 d_RM_init_275 rfl rfl rfl ?_
    refine aw_imul K d_RM_init_278 rfl ?_
    refine aw_iload K d_RM_init_279 rfl rfl ?_
    refine aw_iadd K d_RM_init_281 rfl ?_
    refine aw_iload_n K d_RM_init_282 rfl rfl ?_
    refine aw_iconst K d_RM_init_283 rfl (v := 2) (by decide) ?_
    refine aw_iload K d_RM_init_284 rfl rfl ?_
    refine aw_imul K d_RM_init_286 rfl ?_
    refine aw_ishr K d_RM_init_287 rfl ?_
    refine aw_iconst K d_RM_init_288 rfl (v := 3) (by decide) ?_
    refine aw_iand K d_RM_init_289 rfl ?_
    refine aw_iast K d_RM_init_290 rfl rfl h.1 (w' := [oC 5 [aI x_thrown, aI x_nodes, aI x_room, aI x_states, aI x_kinds, aI x_rules, aR 1, aR 2, aR 3, aR 4, aR 5, aR 6, aR 7, aR 8, aI x_numberings, aI x_wholes, aI x_gone, aI x_steps, aI x_old, aI x_stuck, aI x_answer, aI x_badWhole, aR 9, aR 10, aR 11, aR 12, aR 13, aR 14, aR 15, aR 16, aR 17, aR 18, aI x_same, aI x_at], c1, c2, c3, c4, c5, c6, c7, iC 96 (upd x_numbering (((4 : Int32) * x_numberings) + l5).toNatClampNeg ((l3 >>> (((2 : Int32) * l5) &&& 31)) &&& (3 : Int32))), c9, c10, c11, c12, c13, c14, c15, c16, c17, c18]) rfl ?_
    replace h := h.2
    refine aw_iinc K d_RM_init_291 rfl rfl (v := l5 + 1) rfl (by decide) (lv' := [some (aR 0), none, none, some (aI l3), none, some (aI (l5 + 1))]) rfl ?_
    refine aw_goto K d_RM_init_294 (n := 260) (by decide) ?_
    exact h
abbrev rmw (N room : Nat) (nu : Int32) (nm : Nat → Int32) : List am_C := [cRM 0 (nI N) (nI room) 1 0 0 nu 0 0 0 0 0 0 0 0 0, iC 40 z0, iC 40 z0, iC 40 z0, iC 40 z0, iC 160 z0, iC 160 z0, zC 64 z0, iC 96 nm, iC 98304 z0, iC 8192 z0, iC 8192 z0, iC 8192 z0, iC 8192 z0, iC 8192 z0, iC 8192 z0, iC 12 z0, iC 12 z0, iC 12 z0]
abbrev rn_P (N q : Nat) : List Nat := (List.range q).filter (sp_okp N)
theorem rn_sh : ∀ q, q < 256 → ∀ i, i < 4 → (nI q >>> (((2 : Int32) * nI i) &&& 31)) &&& (3 : Int32) = nI (sp_nb q i) := by decide +kernel
theorem rn_one : ∀ b, b < 4 → (1 : Int32) <<< (nI b &&& 31) = nI (1 <<< b) := by decide +kernel
theorem rn_full : ∀ N, N < 5 → ((1 : Int32) <<< (nI N &&& 31)) - (1 : Int32) = nI (2 ^ N - 1) := by decide +kernel
theorem rn_top : ∀ q, q < 256 → ∀ N, N < 5 → nI q >>> (((2 : Int32) * nI N) &&& 31) = nI (q / 4 ^ N) := by decide +kernel
theorem rn_seen (q : Nat) : ∀ i, sp_seen q i < 16
  | 0 => by show 0 < 16; decide
  | i + 1 => Nat.or_lt_two_pow (n := 4) (rn_seen q i) (by
      have := sp_nb_lt q i
      rw [Nat.one_shiftLeft]
      exact Nat.pow_lt_pow_right (by decide) this)
theorem rn_inj {a b : Nat} (ha : a < 2 ^ 31) (hb : b < 2 ^ 31) (h : nI a = nI b) : a = b := by
  have := congrArg Int32.toNatClampNeg h
  rwa [nI_clamp ha, nI_clamp hb] at this
theorem rn_yes {N q : Nat} (h : sp_okp N q = true) : rn_P N (q + 1) = rn_P N q ++ [q] := by
  simp [rn_P, List.range_succ, h]
theorem rn_no {N q : Nat} (h : ¬ sp_okp N q = true) : rn_P N (q + 1) = rn_P N q := by
  simp [rn_P, List.range_succ, h]
theorem rn_len {N q : Nat} (h1 : 1 ≤ N) (h4 : N ≤ 4) (hq : q ≤ 256) : (rn_P N q).length ≤ 24 := by
  have h9 : ((List.range q).filter (sp_okp N)).length ≤ ((List.range 256).filter (sp_okp N)).length := (List.Sublist.filter _ (List.range_sublist.mpr hq)).length_le
  have h8 : ((List.range 256).filter (sp_okp N)).length = sp_fc N := (sp_pl_at h1 h4).2
  have h7 : sp_fc N ≤ 24 := by unfold sp_fc; split; omega; split; omega; split <;> omega
  exact Nat.le_trans h9 (by omega)
def rn_I (N q : Nat) (nm : Nat → Int32) : Prop := ∀ p, p < (rn_P N q).length → ∀ i, i < N → nm (4 * p + i) = nI (sp_nb ((rn_P N q).getD p 0) i)
set_option maxRecDepth 20000 in
theorem rn_loop {X : am_X} {post : Option am_V → List am_C → Prop} {dd bc bs : Nat} (K : am_ok X b_RM_init R_RM 6 dd) (hr : am_rt X none post) {N room : Nat} (h1 : 1 ≤ N) (h4 : N ≤ 4) (hp : ∀ nm, rn_I N 256 nm → post none (rmw N room (nI (rn_P N 256).length) nm)) :
    ∀ t q nm, q + t = 256 → rn_I N q nm → AW X 187 [some (aR 0), none, none, some (aI (nI q)), none, none] [] (rmw N room (nI (rn_P N q).length) nm) bc bs := by
  intro t
  induction t with
  | zero =>
    intro q nm hq h
    have hq' : q = 256 := by omega
    subst hq'
    exact x_RM_init_187 K hr ⟨fun _ => hp nm h, fun z => absurd (by decide) z⟩
  | succ t ih =>
    intro q nm hq h
    have hq2 : q < 256 := by omega
    refine x_RM_init_187 K hr ⟨fun z => absurd z (nI_ge (a := q) (b := 256) hq2 (by decide)), fun _ => ?_⟩
    have seen : ∀ s i, i + s = N → AW X 200 [some (aR 0), none, none, some (aI (nI q)), some (aI (nI (sp_seen q i))), some (aI (nI i))] [] (rmw N room (nI (rn_P N q).length) nm) bc bs := by
      intro s
      induction s with
      | zero =>
        intro i hi
        have hi' : i = N := by omega
        subst hi'
        refine x_RM_init_200 K hr ⟨fun _ => ⟨fun z => ?_, fun z => ⟨fun z2 => ?_, fun z2 => ?_⟩⟩, fun z => absurd (nI_le (Nat.le_refl _) (by omega)) z⟩
        · rw [rn_full i (by omega)] at z
          have hno : ¬ sp_okp i q = true := fun y => z (by
            unfold sp_okp at y
            rw [Bool.and_eq_true, beq_iff_eq] at y
            rw [y.1])
          have h9 := ih (q + 1) nm (by omega) (by unfold rn_I; rw [rn_no hno]; exact h)
          rw [rn_no hno] at h9
          rw [show nI q + 1 = nI (q + 1) from nI_1 q]
          exact h9
        · rw [rn_full i (by omega)] at z
          rw [rn_top q hq2 i (by omega)] at z2
          have hs : sp_seen q i = 2 ^ i - 1 := rn_inj (by have := rn_seen q i; omega) (by have : 2 ^ i ≤ 2 ^ 4 := Nat.pow_le_pow_right (by decide) h4; omega) z
          have hlt : q / 4 ^ i < 2 ^ 31 := Nat.lt_of_le_of_lt (Nat.div_le_self _ _) (by omega)
          have ht : q / 4 ^ i = 0 := by
            exact Nat.le_zero.mp ((nI_leI (b := 0) hlt (by decide)).mp z2)
          have hyes : sp_okp i q = true := by
            unfold sp_okp
            rw [hs, ht]
            simp
          have hl24 : (rn_P i q).length + 1 ≤ 24 := by
            have := rn_len (N := i) (q := q + 1) h1 h4 (by omega)
            rw [rn_yes hyes, List.length_append] at this
            exact this
          have key : ∀ s j nm', j + s = i → rn_I i q nm' → (∀ x, x < j → nm' (4 * (rn_P i q).length + x) = nI (sp_nb q x)) → AW X 260 [some (aR 0), none, none, some (aI (nI q)), none, some (aI (nI j))] [] (rmw i room (nI (rn_P i q).length) nm') bc bs := by
            intro s
            induction s with
            | zero =>
              intro j nm' hj g1 g2
              have hj' : j = i := by omega
              subst hj'
              refine x_RM_init_260 K hr ⟨fun _ => ?_, fun z => absurd (nI_le (Nat.le_refl _) (by omega)) z⟩
              have h9 := ih (q + 1) nm' (by omega) (by
                unfold rn_I
                rw [rn_yes hyes]
                intro p hp9 x hx
                rw [List.length_append] at hp9
                by_cases e : p < (rn_P j q).length
                · rw [List.getD_eq_getElem?_getD, List.getElem?_append_left e, ← List.getD_eq_getElem?_getD]
                  exact g1 p e x hx
                · have e2 : p = (rn_P j q).length := by
                    have : [q].length = 1 := rfl
                    omega
                  rw [e2, List.getD_eq_getElem?_getD, List.getElem?_append_right (Nat.le_refl _), Nat.sub_self]
                  exact g2 x hx)
              rw [rn_yes hyes, List.length_append] at h9
              rw [show nI q + 1 = nI (q + 1) from nI_1 q, show nI (rn_P j q).length + (1 : Int32) = nI ((rn_P j q).length + 1) from nI_1 _]
              exact h9
            | succ s ih2 =>
              intro j nm' hj g1 g2
              have e4 : (4 : Int32) * nI (rn_P i q).length + nI j = nI (4 * (rn_P i q).length + j) := by
                rw [show (4 : Int32) = nI 4 from rfl, nI_mul2, nI_add]
              refine x_RM_init_260 K hr ⟨fun z => absurd z (nI_ge (by omega) (by omega)), fun _ => ?_⟩
              rw [e4, nI_clamp (by omega), rn_sh q hq2 j (by omega), show nI j + 1 = nI (j + 1) from nI_1 j]
              refine ⟨vp_in_nI (by omega) (by decide), ih2 (j + 1) _ (by omega) ?_ ?_⟩
              · intro p hp9 x hx
                show upd nm' _ _ _ = _
                unfold upd
                rw [if_neg (by omega)]
                exact g1 p hp9 x hx
              · intro x hx
                show upd nm' _ _ _ = _
                unfold upd
                by_cases e : x = j
                · subst e
                  rw [if_pos rfl]
                · rw [if_neg (by omega)]
                  exact g2 x (by omega)
          exact key i 0 nm (by omega) h (fun x hx => absurd hx (by omega))
        · rw [rn_top q hq2 i (by omega)] at z2
          have hno : ¬ sp_okp i q = true := fun y => z2 (by
            unfold sp_okp at y
            rw [Bool.and_eq_true, beq_iff_eq, beq_iff_eq] at y
            rw [y.2]
            decide)
          have h9 := ih (q + 1) nm (by omega) (by unfold rn_I; rw [rn_no hno]; exact h)
          rw [rn_no hno] at h9
          rw [show nI q + 1 = nI (q + 1) from nI_1 q]
          exact h9
      | succ s ih2 =>
        intro i hi
        refine x_RM_init_200 K hr ⟨fun z => absurd z (nI_ge (by omega) (by omega)), fun _ => ?_⟩
        rw [rn_sh q hq2 i (by omega), rn_one _ (sp_nb_lt q i), nx_or, show nI i + 1 = nI (i + 1) from nI_1 i]
        exact ih2 (i + 1) (by omega)
    exact seen N 0 (by omega)
theorem rm_new {N room : Nat} (h1 : 1 ≤ N) (h4 : N ≤ 4) (r1 : 1 ≤ room) (r4 : room ≤ 8192) {nm : Nat → Int32} (h : rn_I N 256 nm) : rm (R0 N) room E0 0 (rmw N room (nI (rn_P N 256).length) nm) := by
  have hl : (rn_P N 256).length = sp_fc N := (sp_pl_at h1 h4).2
  refine ⟨0, 0, fun _ => 0, z0, z0, 0, z0, z0, z0, z0, z0, z0, z0, nm, z0, z0, z0, z0, z0, z0, z0, z0, ?_, rv_0 h1 h4, ev_E0 _ _ _ _ _ _ _ _, ⟨r1, r4⟩, ⟨fun r h => absurd h (Nat.not_lt_zero _), fun a b _ _ => rfl⟩, ?_, fun k h => absurd h (Nat.not_lt_zero _), ⟨fun k h => absurd h (Nat.not_lt_zero _), fun i j _ h => absurd h (Nat.not_lt_zero _), fun k h => absurd h (Nat.not_lt_zero _)⟩, fun h => absurd (show (0 : Nat) = 2 from h) (by decide)⟩
  · rw [hl]; rfl
  · intro p hp i hi
    exact h p (by rw [hl]; exact hp) i hi
theorem oi_RM : Cond.methodLink R_RM 1 Lib.objectInit ∈ am_T := ax_mem (by decide +kernel)
theorem fpi_RM_7 : am_fp R_RM 7 5 3 .int false := ⟨R_RM, F_RM, 34, t_RM, rfl, by decide, ax_mem (by decide +kernel), us_RM, t_RM_ok, n_RM, rfl, (fun h => nomatch h), by decide +kernel⟩
theorem fpi_RM_13 : am_fp R_RM 13 5 6 (.array .int) true := ⟨R_RM, F_RM, 34, t_RM, rfl, by decide, ax_mem (by decide +kernel), us_RM, t_RM_ok, n_RM, rfl, (fun _ => rfl), by decide +kernel⟩
theorem fpi_RM_17 : am_fp R_RM 17 5 7 (.array .int) true := ⟨R_RM, F_RM, 34, t_RM, rfl, by decide, ax_mem (by decide +kernel), us_RM, t_RM_ok, n_RM, rfl, (fun _ => rfl), by decide +kernel⟩
theorem fpi_RM_20 : am_fp R_RM 20 5 8 (.array .int) true := ⟨R_RM, F_RM, 34, t_RM, rfl, by decide, ax_mem (by decide +kernel), us_RM, t_RM_ok, n_RM, rfl, (fun _ => rfl), by decide +kernel⟩
theorem fpi_RM_23 : am_fp R_RM 23 5 9 (.array .int) true := ⟨R_RM, F_RM, 34, t_RM, rfl, by decide, ax_mem (by decide +kernel), us_RM, t_RM_ok, n_RM, rfl, (fun _ => rfl), by decide +kernel⟩
theorem fpi_RM_26 : am_fp R_RM 26 5 10 (.array .int) true := ⟨R_RM, F_RM, 34, t_RM, rfl, by decide, ax_mem (by decide +kernel), us_RM, t_RM_ok, n_RM, rfl, (fun _ => rfl), by decide +kernel⟩
theorem fpi_RM_29 : am_fp R_RM 29 5 11 (.array .int) true := ⟨R_RM, F_RM, 34, t_RM, rfl, by decide, ax_mem (by decide +kernel), us_RM, t_RM_ok, n_RM, rfl, (fun _ => rfl), by decide +kernel⟩
theorem fpi_RM_32 : am_fp R_RM 32 5 12 (.array .boolean) true := ⟨R_RM, F_RM, 34, t_RM, rfl, by decide, ax_mem (by decide +kernel), us_RM, t_RM_ok, n_RM, rfl, (fun _ => rfl), by decide +kernel⟩
theorem fpi_RM_36 : am_fp R_RM 36 5 13 (.array .int) true := ⟨R_RM, F_RM, 34, t_RM, rfl, by decide, ax_mem (by decide +kernel), us_RM, t_RM_ok, n_RM, rfl, (fun _ => rfl), by decide +kernel⟩
theorem fpi_RM_40 : am_fp R_RM 40 5 22 (.array .int) true := ⟨R_RM, F_RM, 34, t_RM, rfl, by decide, ax_mem (by decide +kernel), us_RM, t_RM_ok, n_RM, rfl, (fun _ => rfl), by decide +kernel⟩
theorem fpi_RM_43 : am_fp R_RM 43 5 23 (.array .int) true := ⟨R_RM, F_RM, 34, t_RM, rfl, by decide, ax_mem (by decide +kernel), us_RM, t_RM_ok, n_RM, rfl, (fun _ => rfl), by decide +kernel⟩
theorem fpi_RM_46 : am_fp R_RM 46 5 24 (.array .int) true := ⟨R_RM, F_RM, 34, t_RM, rfl, by decide, ax_mem (by decide +kernel), us_RM, t_RM_ok, n_RM, rfl, (fun _ => rfl), by decide +kernel⟩
theorem fpi_RM_49 : am_fp R_RM 49 5 25 (.array .int) true := ⟨R_RM, F_RM, 34, t_RM, rfl, by decide, ax_mem (by decide +kernel), us_RM, t_RM_ok, n_RM, rfl, (fun _ => rfl), by decide +kernel⟩
theorem fpi_RM_52 : am_fp R_RM 52 5 26 (.array .int) true := ⟨R_RM, F_RM, 34, t_RM, rfl, by decide, ax_mem (by decide +kernel), us_RM, t_RM_ok, n_RM, rfl, (fun _ => rfl), by decide +kernel⟩
theorem fpi_RM_55 : am_fp R_RM 55 5 27 (.array .int) true := ⟨R_RM, F_RM, 34, t_RM, rfl, by decide, ax_mem (by decide +kernel), us_RM, t_RM_ok, n_RM, rfl, (fun _ => rfl), by decide +kernel⟩
theorem fpi_RM_58 : am_fp R_RM 58 5 28 (.array .int) true := ⟨R_RM, F_RM, 34, t_RM, rfl, by decide, ax_mem (by decide +kernel), us_RM, t_RM_ok, n_RM, rfl, (fun _ => rfl), by decide +kernel⟩
theorem fpi_RM_61 : am_fp R_RM 61 5 29 (.array .int) true := ⟨R_RM, F_RM, 34, t_RM, rfl, by decide, ax_mem (by decide +kernel), us_RM, t_RM_ok, n_RM, rfl, (fun _ => rfl), by decide +kernel⟩
theorem fpi_RM_64 : am_fp R_RM 64 5 30 (.array .int) true := ⟨R_RM, F_RM, 34, t_RM, rfl, by decide, ax_mem (by decide +kernel), us_RM, t_RM_ok, n_RM, rfl, (fun _ => rfl), by decide +kernel⟩
theorem fpi_RM_67 : am_fp R_RM 67 5 31 (.array .int) true := ⟨R_RM, F_RM, 34, t_RM, rfl, by decide, ax_mem (by decide +kernel), us_RM, t_RM_ok, n_RM, rfl, (fun _ => rfl), by decide +kernel⟩
theorem fpi_RM_70 : am_fp R_RM 70 5 1 .int true := ⟨R_RM, F_RM, 34, t_RM, rfl, by decide, ax_mem (by decide +kernel), us_RM, t_RM_ok, n_RM, rfl, (fun _ => rfl), by decide +kernel⟩
theorem fpi_RM_73 : am_fp R_RM 73 5 2 .int true := ⟨R_RM, F_RM, 34, t_RM, rfl, by decide, ax_mem (by decide +kernel), us_RM, t_RM_ok, n_RM, rfl, (fun _ => rfl), by decide +kernel⟩
def sp_RM_init : am_S := fun av w post => ∃ (a b : Int32), av = [aR 0, aI a, aI b] ∧ w = [oC 5 [aI 0, aI 0, aI 0, aI 0, aI 0, aI 0, aN, aN, aN, aN, aN, aN, aN, aN, aI 0, aI 0, aI 0, aI 0, aI 0, aI 0, aI 0, aI 0, aN, aN, aN, aN, aN, aN, aN, aN, aN, aN, aI 0, aI 0]] ∧ ∀ w', rm (R0 (o_md (a - 1) 4 + 1)) (o_md (b - 1) 8192 + 1) E0 0 w' → post none w'
set_option maxRecDepth 20000 in
theorem c_RM_init : Con y_RM_init b_RM_init 6 none 1 18 148132 true sp_RM_init := by
  refine Con.of (by decide) (fun av w post h => by obtain ⟨a, b, rfl, -⟩ := h; exact Nat.le_of_ble_eq_true rfl) ?_
  intro X K hnm av w post h hr hal
  obtain ⟨a, b, rfl, rfl, hp⟩ := h
  replace hal := hal rfl
  have h1 : 1 ≤ o_md (a - 1) 4 + 1 := by omega
  have h4 : o_md (a - 1) 4 + 1 ≤ 4 := by have := fm_lt4 (a - 1); omega
  have r1 : 1 ≤ o_md (b - 1) 8192 + 1 := by omega
  have r4 : o_md (b - 1) 8192 + 1 ≤ 8192 := by have := fm_lt8192 (b - 1); omega
  have e_N : (1 : Int32) + ((a - 1) &&& 3) = nI (o_md (a - 1) 4 + 1) := by rw [fm_a4]; exact nI_s1 _
  have e_room : (1 : Int32) + ((b - 1) &&& 8191) = nI (o_md (b - 1) 8192 + 1) := by rw [fm_a8192]; exact nI_s1 _
  generalize hN9 : o_md (a - 1) 4 + 1 = N at *
  generalize hr9 : o_md (b - 1) 8192 + 1 = room at *
  refine aw_aload_n K d_RM_init_0 rfl rfl ?_
  refine aw_objI K oi_RM oi_2 oi_3 d_RM_init_1 rfl (by decide) (Nat.le_of_ble_eq_true rfl) ?_
  refine aw_aload_n K d_RM_init_4 rfl rfl ?_
  refine aw_iconst K d_RM_init_5 rfl (v := 1) (by decide) ?_
  refine aw_putf K fpi_RM_7 d_RM_init_6 rfl rfl (Nat.le_of_ble_eq_true rfl) (am_fit_i _) (w' := [oC 5 [aI 0, aI 0, aI 0, aI 1, aI 0, aI 0, aN, aN, aN, aN, aN, aN, aN, aN, aI 0, aI 0, aI 0, aI 0, aI 0, aI 0, aI 0, aI 0, aN, aN, aN, aN, aN, aN, aN, aN, aN, aN, aI 0, aI 0]]) rfl ?_
  refine aw_aload_n K d_RM_init_9 rfl rfl ?_
  refine aw_bipush K d_RM_init_10 rfl (v := 40) (by decide) ?_
  refine aw_newi K (hal.mono (Nat.le_of_ble_eq_true rfl)) d_RM_init_12 rfl wa_int (N' := 40) (by decide) (by decide) (by decide) (Nat.le_of_ble_eq_true rfl) (Nat.le_of_ble_eq_true rfl) rfl rfl rfl ?_
  show AW X 14 [some (aR 0), some (aI a), some (aI b), none, none, none] [aR 1, aR 0] [oC 5 [aI 0, aI 0, aI 0, aI 1, aI 0, aI 0, aN, aN, aN, aN, aN, aN, aN, aN, aI 0, aI 0, aI 0, aI 0, aI 0, aI 0, aI 0, aI 0, aN, aN, aN, aN, aN, aN, aN, aN, aN, aN, aI 0, aI 0], iC 40 z0] 17 148092
  refine aw_putF K hnm fpi_RM_13 d_RM_init_14 rfl rfl (Nat.le_of_ble_eq_true rfl) (fun _ => ⟨rfl, rfl⟩) (w' := [oC 5 [aI 0, aI 0, aI 0, aI 1, aI 0, aI 0, aR 1, aN, aN, aN, aN, aN, aN, aN, aI 0, aI 0, aI 0, aI 0, aI 0, aI 0, aI 0, aI 0, aN, aN, aN, aN, aN, aN, aN, aN, aN, aN, aI 0, aI 0], iC 40 z0]) rfl ?_
  refine aw_aload_n K d_RM_init_17 rfl rfl ?_
  refine aw_bipush K d_RM_init_18 rfl (v := 40) (by decide) ?_
  refine aw_newi K (hal.mono (Nat.le_of_ble_eq_true rfl)) d_RM_init_20 rfl wa_int (N' := 40) (by decide) (by decide) (by decide) (Nat.le_of_ble_eq_true rfl) (Nat.le_of_ble_eq_true rfl) rfl rfl rfl ?_
  show AW X 22 [some (aR 0), some (aI a), some (aI b), none, none, none] [aR 2, aR 0] [oC 5 [aI 0, aI 0, aI 0, aI 1, aI 0, aI 0, aR 1, aN, aN, aN, aN, aN, aN, aN, aI 0, aI 0, aI 0, aI 0, aI 0, aI 0, aI 0, aI 0, aN, aN, aN, aN, aN, aN, aN, aN, aN, aN, aI 0, aI 0], iC 40 z0, iC 40 z0] 16 148052
  refine aw_putF K hnm fpi_RM_17 d_RM_init_22 rfl rfl (Nat.le_of_ble_eq_true rfl) (fun _ => ⟨rfl, rfl⟩) (w' := [oC 5 [aI 0, aI 0, aI 0, aI 1, aI 0, aI 0, aR 1, aR 2, aN, aN, aN, aN, aN, aN, aI 0, aI 0, aI 0, aI 0, aI 0, aI 0, aI 0, aI 0, aN, aN, aN, aN, aN, aN, aN, aN, aN, aN, aI 0, aI 0], iC 40 z0, iC 40 z0]) rfl ?_
  refine aw_aload_n K d_RM_init_25 rfl rfl ?_
  refine aw_bipush K d_RM_init_26 rfl (v := 40) (by decide) ?_
  refine aw_newi K (hal.mono (Nat.le_of_ble_eq_true rfl)) d_RM_init_28 rfl wa_int (N' := 40) (by decide) (by decide) (by decide) (Nat.le_of_ble_eq_true rfl) (Nat.le_of_ble_eq_true rfl) rfl rfl rfl ?_
  show AW X 30 [some (aR 0), some (aI a), some (aI b), none, none, none] [aR 3, aR 0] [oC 5 [aI 0, aI 0, aI 0, aI 1, aI 0, aI 0, aR 1, aR 2, aN, aN, aN, aN, aN, aN, aI 0, aI 0, aI 0, aI 0, aI 0, aI 0, aI 0, aI 0, aN, aN, aN, aN, aN, aN, aN, aN, aN, aN, aI 0, aI 0], iC 40 z0, iC 40 z0, iC 40 z0] 15 148012
  refine aw_putF K hnm fpi_RM_20 d_RM_init_30 rfl rfl (Nat.le_of_ble_eq_true rfl) (fun _ => ⟨rfl, rfl⟩) (w' := [oC 5 [aI 0, aI 0, aI 0, aI 1, aI 0, aI 0, aR 1, aR 2, aR 3, aN, aN, aN, aN, aN, aI 0, aI 0, aI 0, aI 0, aI 0, aI 0, aI 0, aI 0, aN, aN, aN, aN, aN, aN, aN, aN, aN, aN, aI 0, aI 0], iC 40 z0, iC 40 z0, iC 40 z0]) rfl ?_
  refine aw_aload_n K d_RM_init_33 rfl rfl ?_
  refine aw_bipush K d_RM_init_34 rfl (v := 40) (by decide) ?_
  refine aw_newi K (hal.mono (Nat.le_of_ble_eq_true rfl)) d_RM_init_36 rfl wa_int (N' := 40) (by decide) (by decide) (by decide) (Nat.le_of_ble_eq_true rfl) (Nat.le_of_ble_eq_true rfl) rfl rfl rfl ?_
  show AW X 38 [some (aR 0), some (aI a), some (aI b), none, none, none] [aR 4, aR 0] [oC 5 [aI 0, aI 0, aI 0, aI 1, aI 0, aI 0, aR 1, aR 2, aR 3, aN, aN, aN, aN, aN, aI 0, aI 0, aI 0, aI 0, aI 0, aI 0, aI 0, aI 0, aN, aN, aN, aN, aN, aN, aN, aN, aN, aN, aI 0, aI 0], iC 40 z0, iC 40 z0, iC 40 z0, iC 40 z0] 14 147972
  refine aw_putF K hnm fpi_RM_23 d_RM_init_38 rfl rfl (Nat.le_of_ble_eq_true rfl) (fun _ => ⟨rfl, rfl⟩) (w' := [oC 5 [aI 0, aI 0, aI 0, aI 1, aI 0, aI 0, aR 1, aR 2, aR 3, aR 4, aN, aN, aN, aN, aI 0, aI 0, aI 0, aI 0, aI 0, aI 0, aI 0, aI 0, aN, aN, aN, aN, aN, aN, aN, aN, aN, aN, aI 0, aI 0], iC 40 z0, iC 40 z0, iC 40 z0, iC 40 z0]) rfl ?_
  refine aw_aload_n K d_RM_init_41 rfl rfl ?_
  refine aw_sipush K d_RM_init_42 rfl (v := 160) (by decide) ?_
  refine aw_newi K (hal.mono (Nat.le_of_ble_eq_true rfl)) d_RM_init_45 rfl wa_int (N' := 160) (by decide) (by decide) (by decide) (Nat.le_of_ble_eq_true rfl) (Nat.le_of_ble_eq_true rfl) rfl rfl rfl ?_
  show AW X 47 [some (aR 0), some (aI a), some (aI b), none, none, none] [aR 5, aR 0] [oC 5 [aI 0, aI 0, aI 0, aI 1, aI 0, aI 0, aR 1, aR 2, aR 3, aR 4, aN, aN, aN, aN, aI 0, aI 0, aI 0, aI 0, aI 0, aI 0, aI 0, aI 0, aN, aN, aN, aN, aN, aN, aN, aN, aN, aN, aI 0, aI 0], iC 40 z0, iC 40 z0, iC 40 z0, iC 40 z0, iC 160 z0] 13 147812
  refine aw_putF K hnm fpi_RM_26 d_RM_init_47 rfl rfl (Nat.le_of_ble_eq_true rfl) (fun _ => ⟨rfl, rfl⟩) (w' := [oC 5 [aI 0, aI 0, aI 0, aI 1, aI 0, aI 0, aR 1, aR 2, aR 3, aR 4, aR 5, aN, aN, aN, aI 0, aI 0, aI 0, aI 0, aI 0, aI 0, aI 0, aI 0, aN, aN, aN, aN, aN, aN, aN, aN, aN, aN, aI 0, aI 0], iC 40 z0, iC 40 z0, iC 40 z0, iC 40 z0, iC 160 z0]) rfl ?_
  refine aw_aload_n K d_RM_init_50 rfl rfl ?_
  refine aw_sipush K d_RM_init_51 rfl (v := 160) (by decide) ?_
  refine aw_newi K (hal.mono (Nat.le_of_ble_eq_true rfl)) d_RM_init_54 rfl wa_int (N' := 160) (by decide) (by decide) (by decide) (Nat.le_of_ble_eq_true rfl) (Nat.le_of_ble_eq_true rfl) rfl rfl rfl ?_
  show AW X 56 [some (aR 0), some (aI a), some (aI b), none, none, none] [aR 6, aR 0] [oC 5 [aI 0, aI 0, aI 0, aI 1, aI 0, aI 0, aR 1, aR 2, aR 3, aR 4, aR 5, aN, aN, aN, aI 0, aI 0, aI 0, aI 0, aI 0, aI 0, aI 0, aI 0, aN, aN, aN, aN, aN, aN, aN, aN, aN, aN, aI 0, aI 0], iC 40 z0, iC 40 z0, iC 40 z0, iC 40 z0, iC 160 z0, iC 160 z0] 12 147652
  refine aw_putF K hnm fpi_RM_29 d_RM_init_56 rfl rfl (Nat.le_of_ble_eq_true rfl) (fun _ => ⟨rfl, rfl⟩) (w' := [oC 5 [aI 0, aI 0, aI 0, aI 1, aI 0, aI 0, aR 1, aR 2, aR 3, aR 4, aR 5, aR 6, aN, aN, aI 0, aI 0, aI 0, aI 0, aI 0, aI 0, aI 0, aI 0, aN, aN, aN, aN, aN, aN, aN, aN, aN, aN, aI 0, aI 0], iC 40 z0, iC 40 z0, iC 40 z0, iC 40 z0, iC 160 z0, iC 160 z0]) rfl ?_
  refine aw_aload_n K d_RM_init_59 rfl rfl ?_
  refine aw_bipush K d_RM_init_60 rfl (v := 64) (by decide) ?_
  refine aw_newz K (hal.mono (Nat.le_of_ble_eq_true rfl)) d_RM_init_62 rfl wa_boolean (N' := 64) (by decide) (by decide) (by decide) (Nat.le_of_ble_eq_true rfl) (Nat.le_of_ble_eq_true rfl) rfl rfl rfl ?_
  show AW X 64 [some (aR 0), some (aI a), some (aI b), none, none, none] [aR 7, aR 0] [oC 5 [aI 0, aI 0, aI 0, aI 1, aI 0, aI 0, aR 1, aR 2, aR 3, aR 4, aR 5, aR 6, aN, aN, aI 0, aI 0, aI 0, aI 0, aI 0, aI 0, aI 0, aI 0, aN, aN, aN, aN, aN, aN, aN, aN, aN, aN, aI 0, aI 0], iC 40 z0, iC 40 z0, iC 40 z0, iC 40 z0, iC 160 z0, iC 160 z0, zC 64 z0] 11 147588
  refine aw_putF K hnm fpi_RM_32 d_RM_init_64 rfl rfl (Nat.le_of_ble_eq_true rfl) (fun _ => ⟨rfl, rfl⟩) (w' := [oC 5 [aI 0, aI 0, aI 0, aI 1, aI 0, aI 0, aR 1, aR 2, aR 3, aR 4, aR 5, aR 6, aR 7, aN, aI 0, aI 0, aI 0, aI 0, aI 0, aI 0, aI 0, aI 0, aN, aN, aN, aN, aN, aN, aN, aN, aN, aN, aI 0, aI 0], iC 40 z0, iC 40 z0, iC 40 z0, iC 40 z0, iC 160 z0, iC 160 z0, zC 64 z0]) rfl ?_
  refine aw_aload_n K d_RM_init_67 rfl rfl ?_
  refine aw_bipush K d_RM_init_68 rfl (v := 96) (by decide) ?_
  refine aw_newi K (hal.mono (Nat.le_of_ble_eq_true rfl)) d_RM_init_70 rfl wa_int (N' := 96) (by decide) (by decide) (by decide) (Nat.le_of_ble_eq_true rfl) (Nat.le_of_ble_eq_true rfl) rfl rfl rfl ?_
  show AW X 72 [some (aR 0), some (aI a), some (aI b), none, none, none] [aR 8, aR 0] [oC 5 [aI 0, aI 0, aI 0, aI 1, aI 0, aI 0, aR 1, aR 2, aR 3, aR 4, aR 5, aR 6, aR 7, aN, aI 0, aI 0, aI 0, aI 0, aI 0, aI 0, aI 0, aI 0, aN, aN, aN, aN, aN, aN, aN, aN, aN, aN, aI 0, aI 0], iC 40 z0, iC 40 z0, iC 40 z0, iC 40 z0, iC 160 z0, iC 160 z0, zC 64 z0, iC 96 z0] 10 147492
  refine aw_putF K hnm fpi_RM_36 d_RM_init_72 rfl rfl (Nat.le_of_ble_eq_true rfl) (fun _ => ⟨rfl, rfl⟩) (w' := [oC 5 [aI 0, aI 0, aI 0, aI 1, aI 0, aI 0, aR 1, aR 2, aR 3, aR 4, aR 5, aR 6, aR 7, aR 8, aI 0, aI 0, aI 0, aI 0, aI 0, aI 0, aI 0, aI 0, aN, aN, aN, aN, aN, aN, aN, aN, aN, aN, aI 0, aI 0], iC 40 z0, iC 40 z0, iC 40 z0, iC 40 z0, iC 160 z0, iC 160 z0, zC 64 z0, iC 96 z0]) rfl ?_
  refine aw_aload_n K d_RM_init_75 rfl rfl ?_
  refine aw_ldc K d_RM_init_76 rfl (v := 98304) (ax_mem (by decide +kernel)) ?_
  refine aw_newi K (hal.mono (Nat.le_of_ble_eq_true rfl)) d_RM_init_78 rfl wa_int (N' := 98304) (by decide) (by decide) (by decide) (Nat.le_of_ble_eq_true rfl) (Nat.le_of_ble_eq_true rfl) rfl rfl rfl ?_
  show AW X 80 [some (aR 0), some (aI a), some (aI b), none, none, none] [aR 9, aR 0] [oC 5 [aI 0, aI 0, aI 0, aI 1, aI 0, aI 0, aR 1, aR 2, aR 3, aR 4, aR 5, aR 6, aR 7, aR 8, aI 0, aI 0, aI 0, aI 0, aI 0, aI 0, aI 0, aI 0, aN, aN, aN, aN, aN, aN, aN, aN, aN, aN, aI 0, aI 0], iC 40 z0, iC 40 z0, iC 40 z0, iC 40 z0, iC 160 z0, iC 160 z0, zC 64 z0, iC 96 z0, iC 98304 z0] 9 49188
  refine aw_putF K hnm fpi_RM_40 d_RM_init_80 rfl rfl (Nat.le_of_ble_eq_true rfl) (fun _ => ⟨rfl, rfl⟩) (w' := [oC 5 [aI 0, aI 0, aI 0, aI 1, aI 0, aI 0, aR 1, aR 2, aR 3, aR 4, aR 5, aR 6, aR 7, aR 8, aI 0, aI 0, aI 0, aI 0, aI 0, aI 0, aI 0, aI 0, aR 9, aN, aN, aN, aN, aN, aN, aN, aN, aN, aI 0, aI 0], iC 40 z0, iC 40 z0, iC 40 z0, iC 40 z0, iC 160 z0, iC 160 z0, zC 64 z0, iC 96 z0, iC 98304 z0]) rfl ?_
  refine aw_aload_n K d_RM_init_83 rfl rfl ?_
  refine aw_sipush K d_RM_init_84 rfl (v := 8192) (by decide) ?_
  refine aw_newi K (hal.mono (Nat.le_of_ble_eq_true rfl)) d_RM_init_87 rfl wa_int (N' := 8192) (by decide) (by decide) (by decide) (Nat.le_of_ble_eq_true rfl) (Nat.le_of_ble_eq_true rfl) rfl rfl rfl ?_
  show AW X 89 [some (aR 0), some (aI a), some (aI b), none, none, none] [aR 10, aR 0] [oC 5 [aI 0, aI 0, aI 0, aI 1, aI 0, aI 0, aR 1, aR 2, aR 3, aR 4, aR 5, aR 6, aR 7, aR 8, aI 0, aI 0, aI 0, aI 0, aI 0, aI 0, aI 0, aI 0, aR 9, aN, aN, aN, aN, aN, aN, aN, aN, aN, aI 0, aI 0], iC 40 z0, iC 40 z0, iC 40 z0, iC 40 z0, iC 160 z0, iC 160 z0, zC 64 z0, iC 96 z0, iC 98304 z0, iC 8192 z0] 8 40996
  refine aw_putF K hnm fpi_RM_43 d_RM_init_89 rfl rfl (Nat.le_of_ble_eq_true rfl) (fun _ => ⟨rfl, rfl⟩) (w' := [oC 5 [aI 0, aI 0, aI 0, aI 1, aI 0, aI 0, aR 1, aR 2, aR 3, aR 4, aR 5, aR 6, aR 7, aR 8, aI 0, aI 0, aI 0, aI 0, aI 0, aI 0, aI 0, aI 0, aR 9, aR 10, aN, aN, aN, aN, aN, aN, aN, aN, aI 0, aI 0], iC 40 z0, iC 40 z0, iC 40 z0, iC 40 z0, iC 160 z0, iC 160 z0, zC 64 z0, iC 96 z0, iC 98304 z0, iC 8192 z0]) rfl ?_
  refine aw_aload_n K d_RM_init_92 rfl rfl ?_
  refine aw_sipush K d_RM_init_93 rfl (v := 8192) (by decide) ?_
  refine aw_newi K (hal.mono (Nat.le_of_ble_eq_true rfl)) d_RM_init_96 rfl wa_int (N' := 8192) (by decide) (by decide) (by decide) (Nat.le_of_ble_eq_true rfl) (Nat.le_of_ble_eq_true rfl) rfl rfl rfl ?_
  show AW X 98 [some (aR 0), some (aI a), some (aI b), none, none, none] [aR 11, aR 0] [oC 5 [aI 0, aI 0, aI 0, aI 1, aI 0, aI 0, aR 1, aR 2, aR 3, aR 4, aR 5, aR 6, aR 7, aR 8, aI 0, aI 0, aI 0, aI 0, aI 0, aI 0, aI 0, aI 0, aR 9, aR 10, aN, aN, aN, aN, aN, aN, aN, aN, aI 0, aI 0], iC 40 z0, iC 40 z0, iC 40 z0, iC 40 z0, iC 160 z0, iC 160 z0, zC 64 z0, iC 96 z0, iC 98304 z0, iC 8192 z0, iC 8192 z0] 7 32804
  refine aw_putF K hnm fpi_RM_46 d_RM_init_98 rfl rfl (Nat.le_of_ble_eq_true rfl) (fun _ => ⟨rfl, rfl⟩) (w' := [oC 5 [aI 0, aI 0, aI 0, aI 1, aI 0, aI 0, aR 1, aR 2, aR 3, aR 4, aR 5, aR 6, aR 7, aR 8, aI 0, aI 0, aI 0, aI 0, aI 0, aI 0, aI 0, aI 0, aR 9, aR 10, aR 11, aN, aN, aN, aN, aN, aN, aN, aI 0, aI 0], iC 40 z0, iC 40 z0, iC 40 z0, iC 40 z0, iC 160 z0, iC 160 z0, zC 64 z0, iC 96 z0, iC 98304 z0, iC 8192 z0, iC 8192 z0]) rfl ?_
  refine aw_aload_n K d_RM_init_101 rfl rfl ?_
  refine aw_sipush K d_RM_init_102 rfl (v := 8192) (by decide) ?_
  refine aw_newi K (hal.mono (Nat.le_of_ble_eq_true rfl)) d_RM_init_105 rfl wa_int (N' := 8192) (by decide) (by decide) (by decide) (Nat.le_of_ble_eq_true rfl) (Nat.le_of_ble_eq_true rfl) rfl rfl rfl ?_
  show AW X 107 [some (aR 0), some (aI a), some (aI b), none, none, none] [aR 12, aR 0] [oC 5 [aI 0, aI 0, aI 0, aI 1, aI 0, aI 0, aR 1, aR 2, aR 3, aR 4, aR 5, aR 6, aR 7, aR 8, aI 0, aI 0, aI 0, aI 0, aI 0, aI 0, aI 0, aI 0, aR 9, aR 10, aR 11, aN, aN, aN, aN, aN, aN, aN, aI 0, aI 0], iC 40 z0, iC 40 z0, iC 40 z0, iC 40 z0, iC 160 z0, iC 160 z0, zC 64 z0, iC 96 z0, iC 98304 z0, iC 8192 z0, iC 8192 z0, iC 8192 z0] 6 24612
  refine aw_putF K hnm fpi_RM_49 d_RM_init_107 rfl rfl (Nat.le_of_ble_eq_true rfl) (fun _ => ⟨rfl, rfl⟩) (w' := [oC 5 [aI 0, aI 0, aI 0, aI 1, aI 0, aI 0, aR 1, aR 2, aR 3, aR 4, aR 5, aR 6, aR 7, aR 8, aI 0, aI 0, aI 0, aI 0, aI 0, aI 0, aI 0, aI 0, aR 9, aR 10, aR 11, aR 12, aN, aN, aN, aN, aN, aN, aI 0, aI 0], iC 40 z0, iC 40 z0, iC 40 z0, iC 40 z0, iC 160 z0, iC 160 z0, zC 64 z0, iC 96 z0, iC 98304 z0, iC 8192 z0, iC 8192 z0, iC 8192 z0]) rfl ?_
  refine aw_aload_n K d_RM_init_110 rfl rfl ?_
  refine aw_sipush K d_RM_init_111 rfl (v := 8192) (by decide) ?_
  refine aw_newi K (hal.mono (Nat.le_of_ble_eq_true rfl)) d_RM_init_114 rfl wa_int (N' := 8192) (by decide) (by decide) (by decide) (Nat.le_of_ble_eq_true rfl) (Nat.le_of_ble_eq_true rfl) rfl rfl rfl ?_
  show AW X 116 [some (aR 0), some (aI a), some (aI b), none, none, none] [aR 13, aR 0] [oC 5 [aI 0, aI 0, aI 0, aI 1, aI 0, aI 0, aR 1, aR 2, aR 3, aR 4, aR 5, aR 6, aR 7, aR 8, aI 0, aI 0, aI 0, aI 0, aI 0, aI 0, aI 0, aI 0, aR 9, aR 10, aR 11, aR 12, aN, aN, aN, aN, aN, aN, aI 0, aI 0], iC 40 z0, iC 40 z0, iC 40 z0, iC 40 z0, iC 160 z0, iC 160 z0, zC 64 z0, iC 96 z0, iC 98304 z0, iC 8192 z0, iC 8192 z0, iC 8192 z0, iC 8192 z0] 5 16420
  refine aw_putF K hnm fpi_RM_52 d_RM_init_116 rfl rfl (Nat.le_of_ble_eq_true rfl) (fun _ => ⟨rfl, rfl⟩) (w' := [oC 5 [aI 0, aI 0, aI 0, aI 1, aI 0, aI 0, aR 1, aR 2, aR 3, aR 4, aR 5, aR 6, aR 7, aR 8, aI 0, aI 0, aI 0, aI 0, aI 0, aI 0, aI 0, aI 0, aR 9, aR 10, aR 11, aR 12, aR 13, aN, aN, aN, aN, aN, aI 0, aI 0], iC 40 z0, iC 40 z0, iC 40 z0, iC 40 z0, iC 160 z0, iC 160 z0, zC 64 z0, iC 96 z0, iC 98304 z0, iC 8192 z0, iC 8192 z0, iC 8192 z0, iC 8192 z0]) rfl ?_
  refine aw_aload_n K d_RM_init_119 rfl rfl ?_
  refine aw_sipush K d_RM_init_120 rfl (v := 8192) (by decide) ?_
  refine aw_newi K (hal.mono (Nat.le_of_ble_eq_true rfl)) d_RM_init_123 rfl wa_int (N' := 8192) (by decide) (by decide) (by decide) (Nat.le_of_ble_eq_true rfl) (Nat.le_of_ble_eq_true rfl) rfl rfl rfl ?_
  show AW X 125 [some (aR 0), some (aI a), some (aI b), none, none, none] [aR 14, aR 0] [oC 5 [aI 0, aI 0, aI 0, aI 1, aI 0, aI 0, aR 1, aR 2, aR 3, aR 4, aR 5, aR 6, aR 7, aR 8, aI 0, aI 0, aI 0, aI 0, aI 0, aI 0, aI 0, aI 0, aR 9, aR 10, aR 11, aR 12, aR 13, aN, aN, aN, aN, aN, aI 0, aI 0], iC 40 z0, iC 40 z0, iC 40 z0, iC 40 z0, iC 160 z0, iC 160 z0, zC 64 z0, iC 96 z0, iC 98304 z0, iC 8192 z0, iC 8192 z0, iC 8192 z0, iC 8192 z0, iC 8192 z0] 4 8228
  refine aw_putF K hnm fpi_RM_55 d_RM_init_125 rfl rfl (Nat.le_of_ble_eq_true rfl) (fun _ => ⟨rfl, rfl⟩) (w' := [oC 5 [aI 0, aI 0, aI 0, aI 1, aI 0, aI 0, aR 1, aR 2, aR 3, aR 4, aR 5, aR 6, aR 7, aR 8, aI 0, aI 0, aI 0, aI 0, aI 0, aI 0, aI 0, aI 0, aR 9, aR 10, aR 11, aR 12, aR 13, aR 14, aN, aN, aN, aN, aI 0, aI 0], iC 40 z0, iC 40 z0, iC 40 z0, iC 40 z0, iC 160 z0, iC 160 z0, zC 64 z0, iC 96 z0, iC 98304 z0, iC 8192 z0, iC 8192 z0, iC 8192 z0, iC 8192 z0, iC 8192 z0]) rfl ?_
  refine aw_aload_n K d_RM_init_128 rfl rfl ?_
  refine aw_sipush K d_RM_init_129 rfl (v := 8192) (by decide) ?_
  refine aw_newi K (hal.mono (Nat.le_of_ble_eq_true rfl)) d_RM_init_132 rfl wa_int (N' := 8192) (by decide) (by decide) (by decide) (Nat.le_of_ble_eq_true rfl) (Nat.le_of_ble_eq_true rfl) rfl rfl rfl ?_
  show AW X 134 [some (aR 0), some (aI a), some (aI b), none, none, none] [aR 15, aR 0] [oC 5 [aI 0, aI 0, aI 0, aI 1, aI 0, aI 0, aR 1, aR 2, aR 3, aR 4, aR 5, aR 6, aR 7, aR 8, aI 0, aI 0, aI 0, aI 0, aI 0, aI 0, aI 0, aI 0, aR 9, aR 10, aR 11, aR 12, aR 13, aR 14, aN, aN, aN, aN, aI 0, aI 0], iC 40 z0, iC 40 z0, iC 40 z0, iC 40 z0, iC 160 z0, iC 160 z0, zC 64 z0, iC 96 z0, iC 98304 z0, iC 8192 z0, iC 8192 z0, iC 8192 z0, iC 8192 z0, iC 8192 z0, iC 8192 z0] 3 36
  refine aw_putF K hnm fpi_RM_58 d_RM_init_134 rfl rfl (Nat.le_of_ble_eq_true rfl) (fun _ => ⟨rfl, rfl⟩) (w' := [oC 5 [aI 0, aI 0, aI 0, aI 1, aI 0, aI 0, aR 1, aR 2, aR 3, aR 4, aR 5, aR 6, aR 7, aR 8, aI 0, aI 0, aI 0, aI 0, aI 0, aI 0, aI 0, aI 0, aR 9, aR 10, aR 11, aR 12, aR 13, aR 14, aR 15, aN, aN, aN, aI 0, aI 0], iC 40 z0, iC 40 z0, iC 40 z0, iC 40 z0, iC 160 z0, iC 160 z0, zC 64 z0, iC 96 z0, iC 98304 z0, iC 8192 z0, iC 8192 z0, iC 8192 z0, iC 8192 z0, iC 8192 z0, iC 8192 z0]) rfl ?_
  refine aw_aload_n K d_RM_init_137 rfl rfl ?_
  refine aw_bipush K d_RM_init_138 rfl (v := 12) (by decide) ?_
  refine aw_newi K (hal.mono (Nat.le_of_ble_eq_true rfl)) d_RM_init_140 rfl wa_int (N' := 12) (by decide) (by decide) (by decide) (Nat.le_of_ble_eq_true rfl) (Nat.le_of_ble_eq_true rfl) rfl rfl rfl ?_
  show AW X 142 [some (aR 0), some (aI a), some (aI b), none, none, none] [aR 16, aR 0] [oC 5 [aI 0, aI 0, aI 0, aI 1, aI 0, aI 0, aR 1, aR 2, aR 3, aR 4, aR 5, aR 6, aR 7, aR 8, aI 0, aI 0, aI 0, aI 0, aI 0, aI 0, aI 0, aI 0, aR 9, aR 10, aR 11, aR 12, aR 13, aR 14, aR 15, aN, aN, aN, aI 0, aI 0], iC 40 z0, iC 40 z0, iC 40 z0, iC 40 z0, iC 160 z0, iC 160 z0, zC 64 z0, iC 96 z0, iC 98304 z0, iC 8192 z0, iC 8192 z0, iC 8192 z0, iC 8192 z0, iC 8192 z0, iC 8192 z0, iC 12 z0] 2 24
  refine aw_putF K hnm fpi_RM_61 d_RM_init_142 rfl rfl (Nat.le_of_ble_eq_true rfl) (fun _ => ⟨rfl, rfl⟩) (w' := [oC 5 [aI 0, aI 0, aI 0, aI 1, aI 0, aI 0, aR 1, aR 2, aR 3, aR 4, aR 5, aR 6, aR 7, aR 8, aI 0, aI 0, aI 0, aI 0, aI 0, aI 0, aI 0, aI 0, aR 9, aR 10, aR 11, aR 12, aR 13, aR 14, aR 15, aR 16, aN, aN, aI 0, aI 0], iC 40 z0, iC 40 z0, iC 40 z0, iC 40 z0, iC 160 z0, iC 160 z0, zC 64 z0, iC 96 z0, iC 98304 z0, iC 8192 z0, iC 8192 z0, iC 8192 z0, iC 8192 z0, iC 8192 z0, iC 8192 z0, iC 12 z0]) rfl ?_
  refine aw_aload_n K d_RM_init_145 rfl rfl ?_
  refine aw_bipush K d_RM_init_146 rfl (v := 12) (by decide) ?_
  refine aw_newi K (hal.mono (Nat.le_of_ble_eq_true rfl)) d_RM_init_148 rfl wa_int (N' := 12) (by decide) (by decide) (by decide) (Nat.le_of_ble_eq_true rfl) (Nat.le_of_ble_eq_true rfl) rfl rfl rfl ?_
  show AW X 150 [some (aR 0), some (aI a), some (aI b), none, none, none] [aR 17, aR 0] [oC 5 [aI 0, aI 0, aI 0, aI 1, aI 0, aI 0, aR 1, aR 2, aR 3, aR 4, aR 5, aR 6, aR 7, aR 8, aI 0, aI 0, aI 0, aI 0, aI 0, aI 0, aI 0, aI 0, aR 9, aR 10, aR 11, aR 12, aR 13, aR 14, aR 15, aR 16, aN, aN, aI 0, aI 0], iC 40 z0, iC 40 z0, iC 40 z0, iC 40 z0, iC 160 z0, iC 160 z0, zC 64 z0, iC 96 z0, iC 98304 z0, iC 8192 z0, iC 8192 z0, iC 8192 z0, iC 8192 z0, iC 8192 z0, iC 8192 z0, iC 12 z0, iC 12 z0] 1 12
  refine aw_putF K hnm fpi_RM_64 d_RM_init_150 rfl rfl (Nat.le_of_ble_eq_true rfl) (fun _ => ⟨rfl, rfl⟩) (w' := [oC 5 [aI 0, aI 0, aI 0, aI 1, aI 0, aI 0, aR 1, aR 2, aR 3, aR 4, aR 5, aR 6, aR 7, aR 8, aI 0, aI 0, aI 0, aI 0, aI 0, aI 0, aI 0, aI 0, aR 9, aR 10, aR 11, aR 12, aR 13, aR 14, aR 15, aR 16, aR 17, aN, aI 0, aI 0], iC 40 z0, iC 40 z0, iC 40 z0, iC 40 z0, iC 160 z0, iC 160 z0, zC 64 z0, iC 96 z0, iC 98304 z0, iC 8192 z0, iC 8192 z0, iC 8192 z0, iC 8192 z0, iC 8192 z0, iC 8192 z0, iC 12 z0, iC 12 z0]) rfl ?_
  refine aw_aload_n K d_RM_init_153 rfl rfl ?_
  refine aw_bipush K d_RM_init_154 rfl (v := 12) (by decide) ?_
  refine aw_newi K (hal.mono (Nat.le_of_ble_eq_true rfl)) d_RM_init_156 rfl wa_int (N' := 12) (by decide) (by decide) (by decide) (Nat.le_of_ble_eq_true rfl) (Nat.le_of_ble_eq_true rfl) rfl rfl rfl ?_
  show AW X 158 [some (aR 0), some (aI a), some (aI b), none, none, none] [aR 18, aR 0] [oC 5 [aI 0, aI 0, aI 0, aI 1, aI 0, aI 0, aR 1, aR 2, aR 3, aR 4, aR 5, aR 6, aR 7, aR 8, aI 0, aI 0, aI 0, aI 0, aI 0, aI 0, aI 0, aI 0, aR 9, aR 10, aR 11, aR 12, aR 13, aR 14, aR 15, aR 16, aR 17, aN, aI 0, aI 0], iC 40 z0, iC 40 z0, iC 40 z0, iC 40 z0, iC 160 z0, iC 160 z0, zC 64 z0, iC 96 z0, iC 98304 z0, iC 8192 z0, iC 8192 z0, iC 8192 z0, iC 8192 z0, iC 8192 z0, iC 8192 z0, iC 12 z0, iC 12 z0, iC 12 z0] 0 0
  refine aw_putF K hnm fpi_RM_67 d_RM_init_158 rfl rfl (Nat.le_of_ble_eq_true rfl) (fun _ => ⟨rfl, rfl⟩) (w' := [oC 5 [aI 0, aI 0, aI 0, aI 1, aI 0, aI 0, aR 1, aR 2, aR 3, aR 4, aR 5, aR 6, aR 7, aR 8, aI 0, aI 0, aI 0, aI 0, aI 0, aI 0, aI 0, aI 0, aR 9, aR 10, aR 11, aR 12, aR 13, aR 14, aR 15, aR 16, aR 17, aR 18, aI 0, aI 0], iC 40 z0, iC 40 z0, iC 40 z0, iC 40 z0, iC 160 z0, iC 160 z0, zC 64 z0, iC 96 z0, iC 98304 z0, iC 8192 z0, iC 8192 z0, iC 8192 z0, iC 8192 z0, iC 8192 z0, iC 8192 z0, iC 12 z0, iC 12 z0, iC 12 z0]) rfl ?_
  refine aw_aload_n K d_RM_init_161 rfl rfl ?_
  refine aw_iconst K d_RM_init_162 rfl (v := 1) (by decide) ?_
  refine aw_iload_n K d_RM_init_163 rfl rfl ?_
  refine aw_iconst K d_RM_init_164 rfl (v := 1) (by decide) ?_
  refine aw_isub K d_RM_init_165 rfl ?_
  refine aw_iconst K d_RM_init_166 rfl (v := 3) (by decide) ?_
  refine aw_iand K d_RM_init_167 rfl ?_
  refine aw_iadd K d_RM_init_168 rfl ?_
  refine aw_putF K hnm fpi_RM_70 d_RM_init_169 rfl rfl (Nat.le_of_ble_eq_true rfl) (am_fit_i _) (w' := [oC 5 [aI 0, aI (1 + ((a - 1) &&& 3)), aI 0, aI 1, aI 0, aI 0, aR 1, aR 2, aR 3, aR 4, aR 5, aR 6, aR 7, aR 8, aI 0, aI 0, aI 0, aI 0, aI 0, aI 0, aI 0, aI 0, aR 9, aR 10, aR 11, aR 12, aR 13, aR 14, aR 15, aR 16, aR 17, aR 18, aI 0, aI 0], iC 40 z0, iC 40 z0, iC 40 z0, iC 40 z0, iC 160 z0, iC 160 z0, zC 64 z0, iC 96 z0, iC 98304 z0, iC 8192 z0, iC 8192 z0, iC 8192 z0, iC 8192 z0, iC 8192 z0, iC 8192 z0, iC 12 z0, iC 12 z0, iC 12 z0]) rfl ?_
  refine aw_aload_n K d_RM_init_172 rfl rfl ?_
  refine aw_iconst K d_RM_init_173 rfl (v := 1) (by decide) ?_
  refine aw_iload_n K d_RM_init_174 rfl rfl ?_
  refine aw_iconst K d_RM_init_175 rfl (v := 1) (by decide) ?_
  refine aw_isub K d_RM_init_176 rfl ?_
  refine aw_sipush K d_RM_init_177 rfl (v := 8191) (by decide) ?_
  refine aw_iand K d_RM_init_180 rfl ?_
  refine aw_iadd K d_RM_init_181 rfl ?_
  refine aw_putF K hnm fpi_RM_73 d_RM_init_182 rfl rfl (Nat.le_of_ble_eq_true rfl) (am_fit_i _) (w' := [oC 5 [aI 0, aI (1 + ((a - 1) &&& 3)), aI (1 + ((b - 1) &&& 8191)), aI 1, aI 0, aI 0, aR 1, aR 2, aR 3, aR 4, aR 5, aR 6, aR 7, aR 8, aI 0, aI 0, aI 0, aI 0, aI 0, aI 0, aI 0, aI 0, aR 9, aR 10, aR 11, aR 12, aR 13, aR 14, aR 15, aR 16, aR 17, aR 18, aI 0, aI 0], iC 40 z0, iC 40 z0, iC 40 z0, iC 40 z0, iC 160 z0, iC 160 z0, zC 64 z0, iC 96 z0, iC 98304 z0, iC 8192 z0, iC 8192 z0, iC 8192 z0, iC 8192 z0, iC 8192 z0, iC 8192 z0, iC 12 z0, iC 12 z0, iC 12 z0]) rfl ?_
  refine aw_iconst K d_RM_init_185 rfl (v := 0) (by decide) ?_
  refine aw_istore_n K d_RM_init_186 rfl (by decide) (lv' := [some (aR 0), some (aI a), some (aI b), some (aI 0), none, none]) rfl ?_
  rw [e_N, e_room]
  refine aw_less [1, 2] rfl ?_
  exact rn_loop K hr h1 h4 (fun nm h => hp _ (rm_new h1 h4 r1 r4 h)) 256 0 z0 rfl (fun p h => absurd h (Nat.not_lt_zero _))

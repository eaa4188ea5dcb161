/-! ===== CONSTRUCTORS: the small members ===== -/
/-- what a number leaves by 2^k -/
def o_md (x : Int32) (m : Nat) : Nat := (x.toInt % m).toNat
theorem fm_sg (x m : Int32) (hm : 0 ≤ m.toInt) : 0 ≤ x ^^^ m ↔ 0 ≤ x.toInt := by
  have h1 : (x ^^^ m).toBitVec.msb = (x.toBitVec.msb ^^ m.toBitVec.msb) := by rw [Int32.toBitVec_xor, BitVec.msb_xor]
  rw [BitVec.msb_eq_toInt, BitVec.msb_eq_toInt, BitVec.msb_eq_toInt] at h1
  have h2 : decide (m.toBitVec.toInt < 0) = false := decide_eq_false (Int.not_lt.mpr hm)
  rw [h2, Bool.xor_false] at h1
  have h3 := decide_eq_decide.mp h1
  rw [Int32.le_iff_toInt_le]
  have e1 : (x ^^^ m).toInt = (x ^^^ m).toBitVec.toInt := rfl
  have e2 : x.toInt = x.toBitVec.toInt := rfl
  have e3 : (0 : Int32).toInt = 0 := rfl
  omega
theorem fm_b (x : Int32) : -2147483648 ≤ x.toInt ∧ x.toInt < 2147483648 := ⟨Int32.le_toInt x, Int32.toInt_lt x⟩
theorem fm_bm {z : Int} (h1 : -2147483648 ≤ z) (h2 : z < 2147483648) : z.bmod (2 ^ 32) = z := Int.bmod_eq_of_le (by omega) (by omega)
theorem fm_r4 (x : Int32) : (x - x / (4 : Int32) * (4 : Int32)).toInt = if 0 ≤ x.toInt then x.toInt % 4 else - ((- x.toInt) % 4) := by
  have hb := fm_b x
  have hm : (4 : Int32).toInt = 4 := rfl
  have hd : (x / (4 : Int32)).toInt = if 0 ≤ x.toInt then x.toInt / 4 else - ((- x.toInt) / 4) := by
    rw [Int32.toInt_div_of_ne_right _ _ (by decide), hm]
    by_cases h : 0 ≤ x.toInt
    · rw [if_pos h, Int.tdiv_eq_ediv_of_nonneg h]
    · rw [if_neg h]
      have := Int.neg_tdiv (- x.toInt) 4
      rw [Int.neg_neg, Int.tdiv_eq_ediv_of_nonneg (a := - x.toInt) (by omega)] at this
      exact this
  have hmu : (x / (4 : Int32) * (4 : Int32)).toInt = (x / (4 : Int32)).toInt * 4 := by
    rw [Int32.toInt_mul, hm]
    apply fm_bm
    · rw [hd]; split <;> omega
    · rw [hd]; split <;> omega
  rw [Int32.toInt_sub, hmu, hd, fm_bm]
  · split <;> omega
  · split <;> omega
  · split <;> omega
theorem fm_lt4 (x : Int32) : o_md x 4 < 4 := by
  unfold o_md
  omega
theorem fm_p4 {x : Int32} (h : 0 ≤ x ^^^ (4 : Int32)) : x - x / (4 : Int32) * (4 : Int32) = nI (o_md x 4) := by
  have h0 := (fm_sg x _ (by decide)).mp h
  have h1 := fm_lt4 x
  apply Int32.toInt_inj.mp
  rw [fm_r4, if_pos h0, nI_toInt (by omega)]
  unfold o_md
  omega
theorem fm_z4 {x : Int32} (h : ¬ 0 ≤ x ^^^ (4 : Int32)) (hz : x - x / (4 : Int32) * (4 : Int32) = 0) : x - x / (4 : Int32) * (4 : Int32) = nI (o_md x 4) := by
  have h0 : ¬ 0 ≤ x.toInt := fun z => h ((fm_sg x _ (by decide)).mpr z)
  have h1 := fm_lt4 x
  have h2 := congrArg Int32.toInt hz
  rw [fm_r4, if_neg h0, show (0 : Int32).toInt = 0 from rfl] at h2
  apply Int32.toInt_inj.mp
  rw [fm_r4, if_neg h0, nI_toInt (by omega)]
  unfold o_md
  omega
theorem fm_n4 {x : Int32} (h : ¬ 0 ≤ x ^^^ (4 : Int32)) (hz : ¬ x - x / (4 : Int32) * (4 : Int32) = 0) : x - x / (4 : Int32) * (4 : Int32) + (4 : Int32) = nI (o_md x 4) := by
  have h0 : ¬ 0 ≤ x.toInt := fun z => h ((fm_sg x _ (by decide)).mpr z)
  have h1 := fm_lt4 x
  have h2 : ¬ (x - x / (4 : Int32) * (4 : Int32)).toInt = 0 := fun z => hz (Int32.toInt_inj.mp z)
  have h3 := fm_r4 x
  rw [if_neg h0] at h3
  apply Int32.toInt_inj.mp
  rw [Int32.toInt_add, nI_toInt (by omega), show (4 : Int32).toInt = 4 from rfl, fm_bm]
  · unfold o_md
    omega
  · omega
  · omega
theorem fm_a4 (x : Int32) : x &&& (3 : Int32) = nI (o_md x 4) := by
  obtain ⟨n, hn, rfl⟩ := wb_of32 x
  rw [nI_and n 2 (by decide) (by decide)]
  congr 1
  unfold o_md
  have e1 : (nI n).toInt = (nI n).toBitVec.toInt := rfl
  rw [e1, BitVec.toInt_eq_toNat_cond, nI_mod]
  rw [Nat.mod_eq_of_lt hn]
  split <;> omega
theorem fm_r8192 (x : Int32) : (x - x / (8192 : Int32) * (8192 : Int32)).toInt = if 0 ≤ x.toInt then x.toInt % 8192 else - ((- x.toInt) % 8192) := by
  have hb := fm_b x
  have hm : (8192 : Int32).toInt = 8192 := rfl
  have hd : (x / (8192 : Int32)).toInt = if 0 ≤ x.toInt then x.toInt / 8192 else - ((- x.toInt) / 8192) := by
    rw [Int32.toInt_div_of_ne_right _ _ (by decide), hm]
    by_cases h : 0 ≤ x.toInt
    · rw [if_pos h, Int.tdiv_eq_ediv_of_nonneg h]
    · rw [if_neg h]
      have := Int.neg_tdiv (- x.toInt) 8192
      rw [Int.neg_neg, Int.tdiv_eq_ediv_of_nonneg (a := - x.toInt) (by omega)] at this
      exact this
  have hmu : (x / (8192 : Int32) * (8192 : Int32)).toInt = (x / (8192 : Int32)).toInt * 8192 := by
    rw [Int32.toInt_mul, hm]
    apply fm_bm
    · rw [hd]; split <;> omega
    · rw [hd]; split <;> omega
  rw [Int32.toInt_sub, hmu, hd, fm_bm]
  · split <;> omega
  · split <;> omega
  · split <;> omega
theorem fm_lt8192 (x : Int32) : o_md x 8192 < 8192 := by
  unfold o_md
  omega
theorem fm_p8192 {x : Int32} (h : 0 ≤ x ^^^ (8192 : Int32)) : x - x / (8192 : Int32) * (8192 : Int32) = nI (o_md x 8192) := by
  have h0 := (fm_sg x _ (by decide)).mp h
  have h1 := fm_lt8192 x
  apply Int32.toInt_inj.mp
  rw [fm_r8192, if_pos h0, nI_toInt (by omega)]
  unfold o_md
  omega
theorem fm_z8192 {x : Int32} (h : ¬ 0 ≤ x ^^^ (8192 : Int32)) (hz : x - x / (8192 : Int32) * (8192 : Int32) = 0) : x - x / (8192 : Int32) * (8192 : Int32) = nI (o_md x 8192) := by
  have h0 : ¬ 0 ≤ x.toInt := fun z => h ((fm_sg x _ (by decide)).mpr z)
  have h1 := fm_lt8192 x
  have h2 := congrArg Int32.toInt hz
  rw [fm_r8192, if_neg h0, show (0 : Int32).toInt = 0 from rfl] at h2
  apply Int32.toInt_inj.mp
  rw [fm_r8192, if_neg h0, nI_toInt (by omega)]
  unfold o_md
  omega
theorem fm_n8192 {x : Int32} (h : ¬ 0 ≤ x ^^^ (8192 : Int32)) (hz : ¬ x - x / (8192 : Int32) * (8192 : Int32) = 0) : x - x / (8192 : Int32) * (8192 : Int32) + (8192 : Int32) = nI (o_md x 8192) := by
  have h0 : ¬ 0 ≤ x.toInt := fun z => h ((fm_sg x _ (by decide)).mpr z)
  have h1 := fm_lt8192 x
  have h2 : ¬ (x - x / (8192 : Int32) * (8192 : Int32)).toInt = 0 := fun z => hz (Int32.toInt_inj.mp z)
  have h3 := fm_r8192 x
  rw [if_neg h0] at h3
  apply Int32.toInt_inj.mp
  rw [Int32.toInt_add, nI_toInt (by omega), show (8192 : Int32).toInt = 8192 from rfl, fm_bm]
  · unfold o_md
    omega
  · omega
  · omega
theorem fm_a8192 (x : Int32) : x &&& (8191 : Int32) = nI (o_md x 8192) := by
  obtain ⟨n, hn, rfl⟩ := wb_of32 x
  rw [nI_and n 13 (by decide) (by decide)]
  congr 1
  unfold o_md
  have e1 : (nI n).toInt = (nI n).toBitVec.toInt := rfl
  rw [e1, BitVec.toInt_eq_toNat_cond, nI_mod]
  rw [Nat.mod_eq_of_lt hn]
  split <;> omega
theorem nI_s1 (n : Nat) : (1 : Int32) + nI n = nI (n + 1) := by
  rw [Nat.add_comm]
  exact (Int32.ofNat_add 1 n).symm
/-- as Con.of, for a method of a class that has other rows in the machine's table, but none for this method -/
theorem Con.ofF {y : MethodName} {b : ByteArray} {maxL : Nat} {ret : Option FieldType} {d mc ms : Nat} {al : Bool} {spec : am_S} (hy : plainFor y = true) (hlen : ∀ av w post, spec av w post → (am_ea av).length ≤ maxL)
    (H : ∀ X : am_X, am_ok X b y.cls maxL d → am_nm X y.name → ∀ av w post, spec av w post → am_rt X ret post → (al = true → am_al X w.length) → AW X 0 (am_en av maxL) [] w mc ms) : Con y b maxL ret d mc ms al spec := by
  intro l htr D tc ad av w post sz hsp
  refine MetFree.of_bodySF (code := b) (maxLocals := maxL) (ret := ret) hy ?_ ?_
  · intro args s m h hn
    obtain ⟨meth, c, h1, h2, h3, h4, h5, h6, -, -⟩ := Cond.code_spec hn (atoms_spec (ws := am_ws y b maxL ret) h _ List.mem_cons_self)
    exact ⟨meth, c, h1, h2, h3, h4, h5, h6⟩
  · intro p e s m args below meth c s₁ B hml hv _
    obtain ⟨rfl, hsz, hP, hK, hD0, hF⟩ := hv
    subst hsz
    have hh0 : s₁.heap = s.heap := by rw [B.state]; rfl
    have hD := hD0.self (sz := s.heap.size)
    have K : am_ok (p, l, e, am_rm d mc ms, s, m, (av.map (am_v ad)).toArray, below, meth, c, MQ below (am_Q D tc (am_G al w.length ad) (va_A (am_w ad tc w) s.heap.size) post) (av.map (am_v ad)).toArray s mc ms (va_A (am_w ad tc w) s.heap.size), D, tc, va_A (am_w ad tc w) s.heap.size, am_G al w.length ad, mc, ms, maxL) b y.cls maxL d :=
      ⟨B.exec, B.bytes, ⟨hml, rfl⟩, findClass_of_methodNamed B.named, fun x hx => atoms_spec (ws := am_ws y b maxL ret) B.pre x (List.mem_cons_of_mem _ hx), hK, Nat.le_refl _, Nat.le_refl _, fun q h => Or.inr h, B.notSynchronized, hF, Nat.le_refl _, Nat.le_refl _, htr⟩
    have h := H _ K (name_of_methodNamed B.named B.method).1 av w post hsp ⟨B.returns, fun t h9 => h9⟩ (fun e9 => by
      subst e9
      exact fun ad1 ad2 h1 h2 k hk => (h2 k hk).trans (h1 k hk))
    have h2 := h ad s.heap [] 0 0 _ (am_G_rf al w.length ad) hP hD va_S.rf (am_entry ad av (hlen av w post hsp)) (by omega) (by omega)
    rw [lg_entry_eq]
    obtain ⟨t, a1, o, b1, b2, b3⟩ := h2 s₁ hh0 (Stand.of_body B)
    exact ⟨t, o, a1, b1, b2, b3⟩
set_option maxRecDepth 20000 in
theorem xw_Ma_floorMod_0 {X : am_X} {dd bc bs : Nat} (K : am_ok X b_Ma_floorMod R_Ma 3 dd) {post : Option am_V → List am_C → Prop} (hr : am_rt X (some .int) post) {l0 l1 : Int32} {w : List am_C}
    (h : ¬ l1 = 0 ∧ (0 ≤ (l0 ^^^ l1) → post (some (aI (l0 - l0 / l1 * l1))) w) ∧ (¬ 0 ≤ (l0 ^^^ l1) → ((l0 - l0 / l1 * l1) = 0 → post (some (aI (l0 - l0 / l1 * l1))) w) ∧ (¬ (l0 - l0 / l1 * l1) = 0 → post (some (aI ((l0 - l0 / l1 * l1) + l1))) w))) :
    AW X 0 [some (aI l0), some (aI l1), none] [] w bc bs := by
  refine aw_iload_n K d_Ma_floorMod_0 rfl rfl ?_
  refine aw_iload_n K d_Ma_floorMod_1 rfl rfl ?_
  refine aw_irem K d_Ma_floorMod_2 rfl h.1 ?_
  replace h := h.2
  refine aw_istore_n K d_Ma_floorMod_3 rfl (by decide) (lv' := [some (aI l0), some (aI l1), some (aI (l0 - l0 / l1 * l1))]) rfl ?_
  refine aw_iload_n K d_Ma_floorMod_4 rfl rfl ?_
  refine aw_iload_n K d_Ma_floorMod_5 rfl rfl ?_
  refine aw_ixor K d_Ma_floorMod_6 rfl ?_
  refine aw_if_ge K d_Ma_floorMod_7 (t := 18) (by decide) rfl (fun q => ?_) (fun q => ?_)
  · replace h := h.1 q
    refine aw_iload_n K d_Ma_floorMod_18 rfl rfl ?_
    exact aw_iret K hr d_Ma_floorMod_19 h
  · replace h := h.2 q
    refine aw_iload_n K d_Ma_floorMod_10 rfl rfl ?_
    refine aw_if_eq K d_Ma_floorMod_11 (t := 18) (by decide) rfl (fun q => ?_) (fun q => ?_)
    · replace h := h.1 q
      refine aw_iload_n K d_Ma_floorMod_18 rfl rfl ?_
      exact aw_iret K hr d_Ma_floorMod_19 h
    · replace h := h.2 q
      refine aw_iload_n K d_Ma_floorMod_14 rfl rfl ?_
      refine aw_iload_n K d_Ma_floorMod_15 rfl rfl ?_
      refine aw_iadd K d_Ma_floorMod_16 rfl ?_
      exact aw_iret K hr d_Ma_floorMod_17 h
set_option maxRecDepth 20000 in
theorem xw_St_slotsFor_0 {X : am_X} {dd bc bs : Nat} (K : am_ok X b_St_slotsFor R_St 2 dd) {post : Option am_V → List am_C → Prop} (hr : am_rt X (some .int) post) {l0 : Int32} {w : List am_C}
    (h : AW X 2 [some (aI l0), some (aI 2)] [] w bc bs) :
    AW X 0 [some (aI l0), none] [] w bc bs := by
  refine aw_iconst K d_St_slotsFor_0 rfl (v := 2) (by decide) ?_
  refine aw_istore_n K d_St_slotsFor_1 rfl (by decide) (lv' := [some (aI l0), some (aI 2)]) rfl ?_
  exact h
set_option maxRecDepth 20000 in
theorem xw_St_slotsFor_2 {X : am_X} {dd bc bs : Nat} (K : am_ok X b_St_slotsFor R_St 2 dd) {post : Option am_V → List am_C → Prop} (hr : am_rt X (some .int) post) {l0 l1 : Int32} {w : List am_C}
    (h : (((2 : Int32) * l0) ≤ l1 → post (some (aI l1)) w) ∧ (¬ ((2 : Int32) * l0) ≤ l1 → AW X 2 [some (aI l0), some (aI (l1 * (2 : Int32)))] [] w bc bs)) :
    AW X 2 [some (aI l0), some (aI l1)] [] w bc bs := by
  refine aw_iload_n K d_St_slotsFor_2 rfl rfl ?_
  refine aw_iconst K d_St_slotsFor_3 rfl (v := 2) (by decide) ?_
  refine aw_iload_n K d_St_slotsFor_4 rfl rfl ?_
  refine aw_imul K d_St_slotsFor_5 rfl ?_
  refine aw_icmp_ge K d_St_slotsFor_6 (t := 16) (by decide) rfl (fun q => ?_) (fun q => ?_)
  · replace h := h.1 q
    refine aw_iload_n K d_St_slotsFor_16 rfl rfl ?_
    exact aw_iret K hr d_St_slotsFor_17 h
  · replace h := h.2 q
    refine aw_iload_n K d_St_slotsFor_9 rfl rfl ?_
    refine aw_iconst K d_St_slotsFor_10 rfl (v := 2) (by decide) ?_
    refine aw_imul K d_St_slotsFor_11 rfl ?_
    refine aw_istore_n K d_St_slotsFor_12 rfl (by decide) (lv' := [some (aI l0), some (aI (l1 * (2 : Int32)))]) rfl ?_
    refine aw_goto K d_St_slotsFor_13 (n := 2) (by decide) ?_
    exact h
set_option maxRecDepth 20000 in
theorem xw_SE_numberingsOf_0 {X : am_X} {dd bc bs : Nat} (K : am_ok X b_SE_numberingsOf R_SE 3 dd) {post : Option am_V → List am_C → Prop} (hr : am_rt X (some .int) post) {l0 : Int32} {w : List am_C}
    (h : AW X 4 [some (aI l0), some (aI 1), some (aI 2)] [] w bc bs) :
    AW X 0 [some (aI l0), none, none] [] w bc bs := by
  refine aw_iconst K d_SE_numberingsOf_0 rfl (v := 1) (by decide) ?_
  refine aw_istore_n K d_SE_numberingsOf_1 rfl (by decide) (lv' := [some (aI l0), some (aI 1), none]) rfl ?_
  refine aw_iconst K d_SE_numberingsOf_2 rfl (v := 2) (by decide) ?_
  refine aw_istore_n K d_SE_numberingsOf_3 rfl (by decide) (lv' := [some (aI l0), some (aI 1), some (aI 2)]) rfl ?_
  exact h
set_option maxRecDepth 20000 in
theorem xw_SE_numberingsOf_4 {X : am_X} {dd bc bs : Nat} (K : am_ok X b_SE_numberingsOf R_SE 3 dd) {post : Option am_V → List am_C → Prop} (hr : am_rt X (some .int) post) (hd1 : 1 ≤ dd) {l0 l1 l2 : Int32} {w : List am_C}
    (h : (l0 < l2 → post (some (aI (if 24 < l1 then 24 else l1))) w) ∧ (¬ l0 < l2 → AW X 4 [some (aI l0), some (aI (l1 * l2)), some (aI (l2 + 1))] [] w bc bs)) :
    AW X 4 [some (aI l0), some (aI l1), some (aI l2)] [] w bc bs := by
  refine aw_iload_n K d_SE_numberingsOf_4 rfl rfl ?_
  refine aw_iload_n K d_SE_numberingsOf_5 rfl rfl ?_
  refine aw_icmp_gt K d_SE_numberingsOf_6 (t := 19) (by decide) rfl (fun q => ?_) (fun q => ?_)
  · replace h := h.1 q
    refine aw_iload_n K d_SE_numberingsOf_19 rfl rfl ?_
    refine aw_tabLen K sf_SE_189 d_SE_numberingsOf_20 d_SE_numberingsOf_23 rfl ?_
    refine aw_mmin K mm_SE_192 d_SE_numberingsOf_24 rfl (Nat.le_of_ble_eq_true rfl) hd1 ?_
    exact aw_iret K hr d_SE_numberingsOf_27 h
  · replace h := h.2 q
    refine aw_iload_n K d_SE_numberingsOf_9 rfl rfl ?_
    refine aw_iload_n K d_SE_numberingsOf_10 rfl rfl ?_
    refine aw_imul K d_SE_numberingsOf_11 rfl ?_
    refine aw_istore_n K d_SE_numberingsOf_12 rfl (by decide) (lv' := [some (aI l0), some (aI (l1 * l2)), some (aI l2)]) rfl ?_
    refine aw_iinc K d_SE_numberingsOf_13 rfl rfl (v := l2 + 1) rfl (by decide) (lv' := [some (aI l0), some (aI (l1 * l2)), some (aI (l2 + 1))]) rfl ?_
    refine aw_goto K d_SE_numberingsOf_16 (n := 4) (by decide) ?_
    exact h
def sp_Ma_floorMod : am_S := fun av w post => ∃ (x m : Int32), av = [aI x, aI m] ∧ ((m = 4 ∧ post (some (aI (nI (o_md x 4)))) w) ∨ (m = 8192 ∧ post (some (aI (nI (o_md x 8192)))) w))
theorem c_Ma_floorMod : Con y_Ma_floorMod b_Ma_floorMod 3 (some .int) 0 0 0 false sp_Ma_floorMod := by
  refine Con.ofF (by decide +kernel) (fun av w post h => by obtain ⟨x, m, rfl, -⟩ := h; exact Nat.le_of_ble_eq_true rfl) ?_
  intro X K hnm av w post h hr _
  obtain ⟨x, m, rfl, ⟨rfl, hp⟩ | ⟨rfl, hp⟩⟩ := h
  · exact xw_Ma_floorMod_0 K hr ⟨by decide, fun z => by rw [fm_p4 z]; exact hp, fun z => ⟨fun q => by rw [fm_z4 z q]; exact hp, fun q => by rw [fm_n4 z q]; exact hp⟩⟩
  · exact xw_Ma_floorMod_0 K hr ⟨by decide, fun z => by rw [fm_p8192 z]; exact hp, fun z => ⟨fun q => by rw [fm_z8192 z q]; exact hp, fun q => by rw [fm_n8192 z q]; exact hp⟩⟩
def sp_SE_numW : am_S := fun av w post => ∃ (N : Nat), av = [aI (nI N)] ∧ (1 ≤ N) ∧ (N ≤ 4) ∧ (post (some (aI (nI (sp_fc N)))) w)
theorem c_SE_numW : Con y_SE_numberingsOf b_SE_numberingsOf 3 (some .int) 1 0 0 false sp_SE_numW := by
  refine Con.of (by decide) (fun av w post h => by obtain ⟨N, rfl, -⟩ := h; exact Nat.le_of_ble_eq_true rfl) ?_
  intro X K hnm av w post h hr _
  obtain ⟨N, rfl, h1, h4, hp⟩ := h
  refine xw_SE_numberingsOf_0 K hr ?_
  rcases (show N = 1 ∨ N = 2 ∨ N = 3 ∨ N = 4 by omega) with rfl | rfl | rfl | rfl
  · exact xw_SE_numberingsOf_4 K hr (by decide) ⟨fun _ => hp, fun q => absurd (by decide) q⟩
  · refine xw_SE_numberingsOf_4 K hr (by decide) ⟨fun q => absurd q (by decide), fun _ => ?_⟩
    exact xw_SE_numberingsOf_4 K hr (by decide) ⟨fun _ => hp, fun q => absurd (by decide) q⟩
  · refine xw_SE_numberingsOf_4 K hr (by decide) ⟨fun q => absurd q (by decide), fun _ => ?_⟩
    refine xw_SE_numberingsOf_4 K hr (by decide) ⟨fun q => absurd q (by decide), fun _ => ?_⟩
    exact xw_SE_numberingsOf_4 K hr (by decide) ⟨fun _ => hp, fun q => absurd (by decide) q⟩
  · refine xw_SE_numberingsOf_4 K hr (by decide) ⟨fun q => absurd q (by decide), fun _ => ?_⟩
    refine xw_SE_numberingsOf_4 K hr (by decide) ⟨fun q => absurd q (by decide), fun _ => ?_⟩
    refine xw_SE_numberingsOf_4 K hr (by decide) ⟨fun q => absurd q (by decide), fun _ => ?_⟩
    exact xw_SE_numberingsOf_4 K hr (by decide) ⟨fun _ => hp, fun q => absurd (by decide) q⟩
theorem nI_mul2 (a b : Nat) : nI a * nI b = nI (a * b) := (Int32.ofNat_mul a b).symm
def sp_St_slotsFor : am_S := fun av w post => ∃ (room : Nat), av = [aI (nI room)] ∧ (1 ≤ room) ∧ (room ≤ 8192) ∧ ∀ e, rc_e room e → e ≤ 14 → post (some (aI (nI (2 ^ e)))) w
theorem c_St_slotsFor : Con y_St_slotsFor b_St_slotsFor 2 (some .int) 0 0 0 false sp_St_slotsFor := by
  refine Con.of (by decide) (fun av w post h => by obtain ⟨N, rfl, -⟩ := h; exact Nat.le_of_ble_eq_true rfl) ?_
  intro X K hnm av w post h hr _
  obtain ⟨room, rfl, h1, h4, hp⟩ := h
  have key : ∀ t e, e + t = 14 → 1 ≤ e → AW X 2 [some (aI (nI room)), some (aI (nI (2 ^ e)))] [] w 0 0 := by
    intro t
    induction t with
    | zero =>
      intro e he h9
      have he' : e = 14 := by omega
      subst he'
      refine xw_St_slotsFor_2 K hr ⟨fun _ => hp 14 ⟨h1, h4, by decide, by decide, by omega⟩ (by decide), fun z => absurd ?_ z⟩
      rw [show (2 : Int32) = nI 2 from rfl, nI_mul2]
      exact nI_le (by omega) (by decide)
    | succ t ih =>
      intro e he h9
      have hpow : 2 ^ e ≤ 2 ^ 13 := Nat.pow_le_pow_right (by decide) (by omega)
      refine xw_St_slotsFor_2 K hr ⟨fun z => ?_, fun z => ?_⟩
      · rw [show (2 : Int32) = nI 2 from rfl, nI_mul2, nI_leI (by omega) (by omega)] at z
        exact hp e ⟨h1, h4, h9, by omega, z⟩ (by omega)
      · rw [show (2 : Int32) = nI 2 from rfl, nI_mul2, ← Nat.pow_succ]
        exact ih (e + 1) (by omega) (by omega)
  exact xw_St_slotsFor_0 K hr (key 13 1 (by omega) (by omega))
abbrev z0 : Nat → Int32 := fun _ => 0
abbrev z0L : Nat → Int64 := fun _ => 0
abbrev R0 (N : Nat) : sp_R := (N, 1, 0, 0, fun _ => 0, fun _ => 0, fun _ => 0, fun _ => 0, fun _ => 0, fun _ => 0, fun _ _ => false)
abbrev E0 : sp_E := sp_E0 (fun _ => 0) (fun _ => 0) (fun _ => 0) (fun _ => 0) (fun _ => 0) (fun _ => 0)
theorem cb_Dr_35 : am_cN R_Dr 35 y_SE_numberingsOf R_SE b_SE_numberingsOf 3 (some .int) 1 := ⟨by decide +kernel, cn_SE, ax_mem (by decide +kernel), ⟨by decide, by decide, by decide +kernel⟩, by decide⟩
theorem ct_SE_numberingsOf : Cond.static y_SE_numberingsOf ∈ am_T := ax_mem (by decide +kernel)
theorem rv_0 {N : Nat} (h1 : 1 ≤ N) (h4 : N ≤ 4) : rv (R0 N) := ⟨⟨h1, h4, Nat.le_of_ble_eq_true rfl, Nat.le_of_ble_eq_true rfl, Nat.le_of_ble_eq_true rfl⟩, fun r h => absurd h (Nat.not_lt_zero _), fun _ _ => rfl⟩
set_option maxRecDepth 20000 in
theorem rx_new {N room e : Nat} (h1 : 1 ≤ N) (h4 : N ≤ 4) (he : rc_e room e) : rx (R0 N) room e E0 [oC 0 [aR 1, aR 9, aR 17], oC 1 [aI (nI N), aI 1, aI 0, aI 0, aR 2, aR 3, aR 4, aR 5, aR 6, aR 7, aR 8, aL 0], iC 40 z0, iC 40 z0, iC 40 z0, iC 40 z0, iC 160 z0, iC 160 z0, iC 40 z0, oC 2 [aI 0, aR 10, aR 11, aR 12, aR 13, aR 14, aR 15, aR 16], jC room z0L, iC room z0, iC room z0, iC room z0, iC room z0, iC room z0, iC ((2 ^ e)) z0, oC 3 [aR 1, aR 9, aI 0, aI 0, aI 0, aI 0, aI 0, aI 0, aI 0, aR 18, aR 22], oC 4 [aI (nI N), aI (nI (sp_fc N)), aR 19, aR 20, aI 0, aL 0, aI 0, aR 21], iC 4 z0, iC 7 z0, iC 7 z0, oC 4 [aI (nI N), aI (nI (sp_fc N)), aR 23, aR 24, aI 0, aL 0, aI 0, aR 25], iC 4 z0, iC 7 z0, iC 7 z0] :=
  ⟨0, 0, z0, z0, 0, 0, 0, 0, 0, 0, z0, z0, z0, z0, z0, z0, z0, z0, z0, z0, z0, z0, z0, z0, z0, z0, z0, z0L, rfl, rv_0 h1 h4, ev_E0 _ _ _ _ _ _ _ _, he, ⟨fun r h => absurd h (Nat.not_lt_zero _), fun _ _ _ => rfl, fun a b _ _ => BitVec.getLsbD_zero⟩,
    ⟨fun k h => absurd h (Nat.not_lt_zero _), fun _ => 0, fun _ _ => rfl, st_T_0 e _ _ (fun _ _ => rfl)⟩⟩
theorem oi_Mo : Cond.methodLink R_Mo 3 Lib.objectInit ∈ am_T := ax_mem (by decide +kernel)
theorem oi_2 : Cond.instanceMethod Lib.objectInit ∈ am_T := ax_mem (by decide +kernel)
theorem oi_3 : Cond.code Lib.objectInit ⟨#[0xb1]⟩ 1 none ∈ am_T := ax_mem (by decide +kernel)
theorem fpi_Mo_9 : am_fp R_Mo 9 1 1 .int false := ⟨R_Mo, F_Mo, 12, t_Mo, rfl, by decide, ax_mem (by decide +kernel), us_Mo, t_Mo_ok, n_Mo, rfl, (fun h => nomatch h), by decide +kernel⟩
theorem fpi_Mo_15 : am_fp R_Mo 15 1 2 .int false := ⟨R_Mo, F_Mo, 12, t_Mo, rfl, by decide, ax_mem (by decide +kernel), us_Mo, t_Mo_ok, n_Mo, rfl, (fun h => nomatch h), by decide +kernel⟩
theorem fpi_Mo_18 : am_fp R_Mo 18 1 3 .int false := ⟨R_Mo, F_Mo, 12, t_Mo, rfl, by decide, ax_mem (by decide +kernel), us_Mo, t_Mo_ok, n_Mo, rfl, (fun h => nomatch h), by decide +kernel⟩
theorem fpi_Mo_21 : am_fp R_Mo 21 1 4 (.array .int) true := ⟨R_Mo, F_Mo, 12, t_Mo, rfl, by decide, ax_mem (by decide +kernel), us_Mo, t_Mo_ok, n_Mo, rfl, (fun _ => rfl), by decide +kernel⟩
theorem fpi_Mo_25 : am_fp R_Mo 25 1 5 (.array .int) true := ⟨R_Mo, F_Mo, 12, t_Mo, rfl, by decide, ax_mem (by decide +kernel), us_Mo, t_Mo_ok, n_Mo, rfl, (fun _ => rfl), by decide +kernel⟩
theorem fpi_Mo_28 : am_fp R_Mo 28 1 6 (.array .int) true := ⟨R_Mo, F_Mo, 12, t_Mo, rfl, by decide, ax_mem (by decide +kernel), us_Mo, t_Mo_ok, n_Mo, rfl, (fun _ => rfl), by decide +kernel⟩
theorem fpi_Mo_31 : am_fp R_Mo 31 1 7 (.array .int) true := ⟨R_Mo, F_Mo, 12, t_Mo, rfl, by decide, ax_mem (by decide +kernel), us_Mo, t_Mo_ok, n_Mo, rfl, (fun _ => rfl), by decide +kernel⟩
theorem fpi_Mo_34 : am_fp R_Mo 34 1 8 (.array .int) true := ⟨R_Mo, F_Mo, 12, t_Mo, rfl, by decide, ax_mem (by decide +kernel), us_Mo, t_Mo_ok, n_Mo, rfl, (fun _ => rfl), by decide +kernel⟩
theorem fpi_Mo_37 : am_fp R_Mo 37 1 9 (.array .int) true := ⟨R_Mo, F_Mo, 12, t_Mo, rfl, by decide, ax_mem (by decide +kernel), us_Mo, t_Mo_ok, n_Mo, rfl, (fun _ => rfl), by decide +kernel⟩
theorem fpi_Mo_40 : am_fp R_Mo 40 1 10 (.array .int) true := ⟨R_Mo, F_Mo, 12, t_Mo, rfl, by decide, ax_mem (by decide +kernel), us_Mo, t_Mo_ok, n_Mo, rfl, (fun _ => rfl), by decide +kernel⟩
theorem fpi_Mo_43 : am_fp R_Mo 43 1 11 .long false := ⟨R_Mo, F_Mo, 12, t_Mo, rfl, by decide, ax_mem (by decide +kernel), us_Mo, t_Mo_ok, n_Mo, rfl, (fun h => nomatch h), by decide +kernel⟩
theorem fpi_Mo_47 : am_fp R_Mo 47 1 0 .int true := ⟨R_Mo, F_Mo, 12, t_Mo, rfl, by decide, ax_mem (by decide +kernel), us_Mo, t_Mo_ok, n_Mo, rfl, (fun _ => rfl), by decide +kernel⟩
theorem oi_St : Cond.methodLink R_St 3 Lib.objectInit ∈ am_T := ax_mem (by decide +kernel)
theorem fpi_St_9 : am_fp R_St 9 2 0 .int false := ⟨R_St, F_St, 8, t_St, rfl, by decide, ax_mem (by decide +kernel), us_St, t_St_ok, n_St, rfl, (fun h => nomatch h), by decide +kernel⟩
theorem fpi_St_15 : am_fp R_St 15 2 1 (.array .long) true := ⟨R_St, F_St, 8, t_St, rfl, by decide, ax_mem (by decide +kernel), us_St, t_St_ok, n_St, rfl, (fun _ => rfl), by decide +kernel⟩
theorem fpi_St_19 : am_fp R_St 19 2 2 (.array .int) true := ⟨R_St, F_St, 8, t_St, rfl, by decide, ax_mem (by decide +kernel), us_St, t_St_ok, n_St, rfl, (fun _ => rfl), by decide +kernel⟩
theorem fpi_St_23 : am_fp R_St 23 2 3 (.array .int) true := ⟨R_St, F_St, 8, t_St, rfl, by decide, ax_mem (by decide +kernel), us_St, t_St_ok, n_St, rfl, (fun _ => rfl), by decide +kernel⟩
theorem fpi_St_26 : am_fp R_St 26 2 4 (.array .int) true := ⟨R_St, F_St, 8, t_St, rfl, by decide, ax_mem (by decide +kernel), us_St, t_St_ok, n_St, rfl, (fun _ => rfl), by decide +kernel⟩
theorem fpi_St_29 : am_fp R_St 29 2 5 (.array .int) true := ⟨R_St, F_St, 8, t_St, rfl, by decide, ax_mem (by decide +kernel), us_St, t_St_ok, n_St, rfl, (fun _ => rfl), by decide +kernel⟩
theorem fpi_St_32 : am_fp R_St 32 2 6 (.array .int) true := ⟨R_St, F_St, 8, t_St, rfl, by decide, ax_mem (by decide +kernel), us_St, t_St_ok, n_St, rfl, (fun _ => rfl), by decide +kernel⟩
theorem cbi_St_35 : am_cB R_St 35 y_St_slotsFor b_St_slotsFor 2 (some .int) 1 := ⟨ax_mem (by decide +kernel), ax_mem (by decide +kernel), ax_mem (by decide +kernel), by decide +kernel, by decide⟩
theorem cti_St_slotsFor : Cond.static y_St_slotsFor ∈ am_T := ax_mem (by decide +kernel)
theorem fpi_St_39 : am_fp R_St 39 2 7 (.array .int) true := ⟨R_St, F_St, 8, t_St, rfl, by decide, ax_mem (by decide +kernel), us_St, t_St_ok, n_St, rfl, (fun _ => rfl), by decide +kernel⟩
theorem oi_Dr : Cond.methodLink R_Dr 3 Lib.objectInit ∈ am_T := ax_mem (by decide +kernel)
theorem fpi_Dr_9 : am_fp R_Dr 9 4 2 (.array .int) true := ⟨R_Dr, F_Dr, 8, t_Dr, rfl, by decide, ax_mem (by decide +kernel), us_Dr, t_Dr_ok, n_Dr, rfl, (fun _ => rfl), by decide +kernel⟩
theorem fpi_Dr_15 : am_fp R_Dr 15 4 3 (.array .int) true := ⟨R_Dr, F_Dr, 8, t_Dr, rfl, by decide, ax_mem (by decide +kernel), us_Dr, t_Dr_ok, n_Dr, rfl, (fun _ => rfl), by decide +kernel⟩
theorem fpi_Dr_18 : am_fp R_Dr 18 4 4 .int false := ⟨R_Dr, F_Dr, 8, t_Dr, rfl, by decide, ax_mem (by decide +kernel), us_Dr, t_Dr_ok, n_Dr, rfl, (fun h => nomatch h), by decide +kernel⟩
theorem fpi_Dr_22 : am_fp R_Dr 22 4 5 .long false := ⟨R_Dr, F_Dr, 8, t_Dr, rfl, by decide, ax_mem (by decide +kernel), us_Dr, t_Dr_ok, n_Dr, rfl, (fun h => nomatch h), by decide +kernel⟩
theorem fpi_Dr_26 : am_fp R_Dr 26 4 6 .int false := ⟨R_Dr, F_Dr, 8, t_Dr, rfl, by decide, ax_mem (by decide +kernel), us_Dr, t_Dr_ok, n_Dr, rfl, (fun h => nomatch h), by decide +kernel⟩
theorem fpi_Dr_29 : am_fp R_Dr 29 4 7 (.array .int) true := ⟨R_Dr, F_Dr, 8, t_Dr, rfl, by decide, ax_mem (by decide +kernel), us_Dr, t_Dr_ok, n_Dr, rfl, (fun _ => rfl), by decide +kernel⟩
theorem fpi_Dr_32 : am_fp R_Dr 32 4 0 .int true := ⟨R_Dr, F_Dr, 8, t_Dr, rfl, by decide, ax_mem (by decide +kernel), us_Dr, t_Dr_ok, n_Dr, rfl, (fun _ => rfl), by decide +kernel⟩
theorem fpi_Dr_39 : am_fp R_Dr 39 4 1 .int true := ⟨R_Dr, F_Dr, 8, t_Dr, rfl, by decide, ax_mem (by decide +kernel), us_Dr, t_Dr_ok, n_Dr, rfl, (fun _ => rfl), by decide +kernel⟩
theorem oi_Ex : Cond.methodLink R_Ex 3 Lib.objectInit ∈ am_T := ax_mem (by decide +kernel)
theorem fpi_Ex_9 : am_fp R_Ex 9 3 2 .int false := ⟨R_Ex, F_Ex, 11, t_Ex, rfl, by decide, ax_mem (by decide +kernel), us_Ex, t_Ex_ok, n_Ex, rfl, (fun h => nomatch h), by decide +kernel⟩
theorem fpi_Ex_15 : am_fp R_Ex 15 3 3 .int false := ⟨R_Ex, F_Ex, 11, t_Ex, rfl, by decide, ax_mem (by decide +kernel), us_Ex, t_Ex_ok, n_Ex, rfl, (fun h => nomatch h), by decide +kernel⟩
theorem fpi_Ex_18 : am_fp R_Ex 18 3 4 .int false := ⟨R_Ex, F_Ex, 11, t_Ex, rfl, by decide, ax_mem (by decide +kernel), us_Ex, t_Ex_ok, n_Ex, rfl, (fun h => nomatch h), by decide +kernel⟩
theorem fpi_Ex_21 : am_fp R_Ex 21 3 5 .int false := ⟨R_Ex, F_Ex, 11, t_Ex, rfl, by decide, ax_mem (by decide +kernel), us_Ex, t_Ex_ok, n_Ex, rfl, (fun h => nomatch h), by decide +kernel⟩
theorem fpi_Ex_24 : am_fp R_Ex 24 3 6 .int false := ⟨R_Ex, F_Ex, 11, t_Ex, rfl, by decide, ax_mem (by decide +kernel), us_Ex, t_Ex_ok, n_Ex, rfl, (fun h => nomatch h), by decide +kernel⟩
theorem fpi_Ex_27 : am_fp R_Ex 27 3 7 .int false := ⟨R_Ex, F_Ex, 11, t_Ex, rfl, by decide, ax_mem (by decide +kernel), us_Ex, t_Ex_ok, n_Ex, rfl, (fun h => nomatch h), by decide +kernel⟩
theorem fpi_Ex_30 : am_fp R_Ex 30 3 8 .int false := ⟨R_Ex, F_Ex, 11, t_Ex, rfl, by decide, ax_mem (by decide +kernel), us_Ex, t_Ex_ok, n_Ex, rfl, (fun h => nomatch h), by decide +kernel⟩
theorem fpi_Ex_33 : am_fp R_Ex 33 3 0 (.object "StateExplore$Model") true := ⟨R_Ex, F_Ex, 11, t_Ex, rfl, by decide, ax_mem (by decide +kernel), us_Ex, t_Ex_ok, n_Ex, rfl, (fun _ => rfl), by decide +kernel⟩
theorem fpi_Ex_37 : am_fp R_Ex 37 3 1 (.object "StateExplore$Store") true := ⟨R_Ex, F_Ex, 11, t_Ex, rfl, by decide, ax_mem (by decide +kernel), us_Ex, t_Ex_ok, n_Ex, rfl, (fun _ => rfl), by decide +kernel⟩
theorem nw_Ex_41 : am_nw R_Ex 41 4 8 [aI 0, aI 0, aN, aN, aI 0, aL 0, aI 0, aN] := ⟨R_Dr, F_Dr, t_Dr, rfl, us_Dr, t_Dr_ok, ax_mem (by decide +kernel), ax_mem (by decide +kernel), ax_mem (by decide +kernel), fun ad j hj => match j, hj with | 0, _ => rfl | 1, _ => rfl | 2, _ => rfl | 3, _ => rfl | 4, _ => rfl | 5, _ => rfl | 6, _ => rfl | 7, _ => rfl | (j + 8), h => absurd h (by omega), rfl⟩
theorem cbi_Ex_48 : am_cB R_Ex 48 y_Dr_init b_Dr_init 2 none 1 := ⟨ax_mem (by decide +kernel), ax_mem (by decide +kernel), ax_mem (by decide +kernel), by decide +kernel, by decide⟩
theorem cii_Dr_init : Cond.instanceMethod y_Dr_init ∈ am_T := ax_mem (by decide +kernel)
theorem fpi_Ex_51 : am_fp R_Ex 51 3 9 (.object "StateExplore$Draft") true := ⟨R_Ex, F_Ex, 11, t_Ex, rfl, by decide, ax_mem (by decide +kernel), us_Ex, t_Ex_ok, n_Ex, rfl, (fun _ => rfl), by decide +kernel⟩
theorem fpi_Ex_55 : am_fp R_Ex 55 3 10 (.object "StateExplore$Draft") true := ⟨R_Ex, F_Ex, 11, t_Ex, rfl, by decide, ax_mem (by decide +kernel), us_Ex, t_Ex_ok, n_Ex, rfl, (fun _ => rfl), by decide +kernel⟩
theorem oi_SE : Cond.methodLink R_SE 3 Lib.objectInit ∈ am_T := ax_mem (by decide +kernel)
theorem nw_SE_9 : am_nw R_SE 9 1 12 [aI 0, aI 0, aI 0, aI 0, aN, aN, aN, aN, aN, aN, aN, aL 0] := ⟨R_Mo, F_Mo, t_Mo, rfl, us_Mo, t_Mo_ok, ax_mem (by decide +kernel), ax_mem (by decide +kernel), ax_mem (by decide +kernel), fun ad j hj => match j, hj with | 0, _ => rfl | 1, _ => rfl | 2, _ => rfl | 3, _ => rfl | 4, _ => rfl | 5, _ => rfl | 6, _ => rfl | 7, _ => rfl | 8, _ => rfl | 9, _ => rfl | 10, _ => rfl | 11, _ => rfl | (j + 12), h => absurd h (by omega), rfl⟩
theorem cbi_SE_11 : am_cB R_SE 11 y_Ma_floorMod b_Ma_floorMod 3 (some .int) 2 := ⟨ax_mem (by decide +kernel), ax_mem (by decide +kernel), ax_mem (by decide +kernel), by decide +kernel, by decide⟩
theorem cti_Ma_floorMod : Cond.static y_Ma_floorMod ∈ am_T := ax_mem (by decide +kernel)
theorem cbi_SE_17 : am_cB R_SE 17 y_Mo_init b_Mo_init 2 none 1 := ⟨ax_mem (by decide +kernel), ax_mem (by decide +kernel), ax_mem (by decide +kernel), by decide +kernel, by decide⟩
theorem cii_Mo_init : Cond.instanceMethod y_Mo_init ∈ am_T := ax_mem (by decide +kernel)
theorem fpi_SE_20 : am_fp R_SE 20 0 0 (.object "StateExplore$Model") true := ⟨R_SE, F_SE, 3, t_SE, rfl, by decide, ax_mem (by decide +kernel), us_SE, t_SE_ok, n_SE, rfl, (fun _ => rfl), by decide +kernel⟩
theorem nw_SE_24 : am_nw R_SE 24 2 8 [aI 0, aN, aN, aN, aN, aN, aN, aN] := ⟨R_St, F_St, t_St, rfl, us_St, t_St_ok, ax_mem (by decide +kernel), ax_mem (by decide +kernel), ax_mem (by decide +kernel), fun ad j hj => match j, hj with | 0, _ => rfl | 1, _ => rfl | 2, _ => rfl | 3, _ => rfl | 4, _ => rfl | 5, _ => rfl | 6, _ => rfl | 7, _ => rfl | (j + 8), h => absurd h (by omega), rfl⟩
theorem cbi_SE_26 : am_cB R_SE 26 y_St_init b_St_init 2 none 1 := ⟨ax_mem (by decide +kernel), ax_mem (by decide +kernel), ax_mem (by decide +kernel), by decide +kernel, by decide⟩
theorem cii_St_init : Cond.instanceMethod y_St_init ∈ am_T := ax_mem (by decide +kernel)
theorem fpi_SE_27 : am_fp R_SE 27 0 1 (.object "StateExplore$Store") true := ⟨R_SE, F_SE, 3, t_SE, rfl, by decide, ax_mem (by decide +kernel), us_SE, t_SE_ok, n_SE, rfl, (fun _ => rfl), by decide +kernel⟩
theorem nw_SE_31 : am_nw R_SE 31 3 11 [aN, aN, aI 0, aI 0, aI 0, aI 0, aI 0, aI 0, aI 0, aN, aN] := ⟨R_Ex, F_Ex, t_Ex, rfl, us_Ex, t_Ex_ok, ax_mem (by decide +kernel), ax_mem (by decide +kernel), ax_mem (by decide +kernel), fun ad j hj => match j, hj with | 0, _ => rfl | 1, _ => rfl | 2, _ => rfl | 3, _ => rfl | 4, _ => rfl | 5, _ => rfl | 6, _ => rfl | 7, _ => rfl | 8, _ => rfl | 9, _ => rfl | 10, _ => rfl | (j + 11), h => absurd h (by omega), rfl⟩
theorem cbi_SE_33 : am_cB R_SE 33 y_Ex_init b_Ex_init 3 none 2 := ⟨ax_mem (by decide +kernel), ax_mem (by decide +kernel), ax_mem (by decide +kernel), by decide +kernel, by decide⟩
theorem cii_Ex_init : Cond.instanceMethod y_Ex_init ∈ am_T := ax_mem (by decide +kernel)
theorem fpi_SE_36 : am_fp R_SE 36 0 2 (.object "StateExplore$Explorer") true := ⟨R_SE, F_SE, 3, t_SE, rfl, by decide, ax_mem (by decide +kernel), us_SE, t_SE_ok, n_SE, rfl, (fun _ => rfl), by decide +kernel⟩
def sp_Mo_init : am_S := fun av w post => ∃ (n : Int32), av = [aR 1, aI n] ∧ w = [oC 0 [aN, aN, aN], oC 1 [aI 0, aI 0, aI 0, aI 0, aN, aN, aN, aN, aN, aN, aN, aL 0]] ∧ post none [oC 0 [aN, aN, aN], oC 1 [aI n, aI 1, aI 0, aI 0, aR 2, aR 3, aR 4, aR 5, aR 6, aR 7, aR 8, aL 0], iC 40 z0, iC 40 z0, iC 40 z0, iC 40 z0, iC 160 z0, iC 160 z0, iC 40 z0]
set_option maxRecDepth 20000 in
theorem c_Mo_init : Con y_Mo_init b_Mo_init 2 none 1 7 520 true sp_Mo_init := by
  refine Con.of (by decide) (fun av w post h => by obtain ⟨n, rfl, -⟩ := h; exact Nat.le_of_ble_eq_true rfl) ?_
  intro X K hnm av w post h hr hal
  obtain ⟨n, rfl, rfl, hp⟩ := h
  replace hal := hal rfl
  refine aw_aload_n K d_Mo_init_0 rfl rfl ?_
  refine aw_objI K oi_Mo oi_2 oi_3 d_Mo_init_1 rfl (by decide) (Nat.le_of_ble_eq_true rfl) ?_
  refine aw_aload_n K d_Mo_init_4 rfl rfl ?_
  refine aw_iconst K d_Mo_init_5 rfl (v := 1) (by decide) ?_
  refine aw_putf K fpi_Mo_9 d_Mo_init_6 rfl rfl (Nat.le_of_ble_eq_true rfl) (am_fit_i _) (w' := [oC 0 [aN, aN, aN], oC 1 [aI 0, aI 1, aI 0, aI 0, aN, aN, aN, aN, aN, aN, aN, aL 0]]) rfl ?_
  refine aw_aload_n K d_Mo_init_9 rfl rfl ?_
  refine aw_iconst K d_Mo_init_10 rfl (v := 0) (by decide) ?_
  refine aw_putf K fpi_Mo_15 d_Mo_init_11 rfl rfl (Nat.le_of_ble_eq_true rfl) (am_fit_i _) (w' := [oC 0 [aN, aN, aN], oC 1 [aI 0, aI 1, aI 0, aI 0, aN, aN, aN, aN, aN, aN, aN, aL 0]]) rfl ?_
  refine aw_aload_n K d_Mo_init_14 rfl rfl ?_
  refine aw_iconst K d_Mo_init_15 rfl (v := 0) (by decide) ?_
  refine aw_putf K fpi_Mo_18 d_Mo_init_16 rfl rfl (Nat.le_of_ble_eq_true rfl) (am_fit_i _) (w' := [oC 0 [aN, aN, aN], oC 1 [aI 0, aI 1, aI 0, aI 0, aN, aN, aN, aN, aN, aN, aN, aL 0]]) rfl ?_
  refine aw_aload_n K d_Mo_init_19 rfl rfl ?_
  refine aw_bipush K d_Mo_init_20 rfl (v := 40) (by decide) ?_
  refine aw_newi K (hal.mono (Nat.le_of_ble_eq_true rfl)) d_Mo_init_22 rfl wa_int (N' := 40) (by decide) (by decide) (by decide) (Nat.le_of_ble_eq_true rfl) (Nat.le_of_ble_eq_true rfl) rfl rfl rfl ?_
  show AW X 24 [some (aR 1), some (aI n)] [aR 2, aR 1] [oC 0 [aN, aN, aN], oC 1 [aI 0, aI 1, aI 0, aI 0, aN, aN, aN, aN, aN, aN, aN, aL 0], iC 40 z0] 6 480
  refine aw_putF K hnm fpi_Mo_21 d_Mo_init_24 rfl rfl (Nat.le_of_ble_eq_true rfl) (fun _ => ⟨rfl, rfl⟩) (w' := [oC 0 [aN, aN, aN], oC 1 [aI 0, aI 1, aI 0, aI 0, aR 2, aN, aN, aN, aN, aN, aN, aL 0], iC 40 z0]) rfl ?_
  refine aw_aload_n K d_Mo_init_27 rfl rfl ?_
  refine aw_bipush K d_Mo_init_28 rfl (v := 40) (by decide) ?_
  refine aw_newi K (hal.mono (Nat.le_of_ble_eq_true rfl)) d_Mo_init_30 rfl wa_int (N' := 40) (by decide) (by decide) (by decide) (Nat.le_of_ble_eq_true rfl) (Nat.le_of_ble_eq_true rfl) rfl rfl rfl ?_
  show AW X 32 [some (aR 1), some (aI n)] [aR 3, aR 1] [oC 0 [aN, aN, aN], oC 1 [aI 0, aI 1, aI 0, aI 0, aR 2, aN, aN, aN, aN, aN, aN, aL 0], iC 40 z0, iC 40 z0] 5 440
  refine aw_putF K hnm fpi_Mo_25 d_Mo_init_32 rfl rfl (Nat.le_of_ble_eq_true rfl) (fun _ => ⟨rfl, rfl⟩) (w' := [oC 0 [aN, aN, aN], oC 1 [aI 0, aI 1, aI 0, aI 0, aR 2, aR 3, aN, aN, aN, aN, aN, aL 0], iC 40 z0, iC 40 z0]) rfl ?_
  refine aw_aload_n K d_Mo_init_35 rfl rfl ?_
  refine aw_bipush K d_Mo_init_36 rfl (v := 40) (by decide) ?_
  refine aw_newi K (hal.mono (Nat.le_of_ble_eq_true rfl)) d_Mo_init_38 rfl wa_int (N' := 40) (by decide) (by decide) (by decide) (Nat.le_of_ble_eq_true rfl) (Nat.le_of_ble_eq_true rfl) rfl rfl rfl ?_
  show AW X 40 [some (aR 1), some (aI n)] [aR 4, aR 1] [oC 0 [aN, aN, aN], oC 1 [aI 0, aI 1, aI 0, aI 0, aR 2, aR 3, aN, aN, aN, aN, aN, aL 0], iC 40 z0, iC 40 z0, iC 40 z0] 4 400
  refine aw_putF K hnm fpi_Mo_28 d_Mo_init_40 rfl rfl (Nat.le_of_ble_eq_true rfl) (fun _ => ⟨rfl, rfl⟩) (w' := [oC 0 [aN, aN, aN], oC 1 [aI 0, aI 1, aI 0, aI 0, aR 2, aR 3, aR 4, aN, aN, aN, aN, aL 0], iC 40 z0, iC 40 z0, iC 40 z0]) rfl ?_
  refine aw_aload_n K d_Mo_init_43 rfl rfl ?_
  refine aw_bipush K d_Mo_init_44 rfl (v := 40) (by decide) ?_
  refine aw_newi K (hal.mono (Nat.le_of_ble_eq_true rfl)) d_Mo_init_46 rfl wa_int (N' := 40) (by decide) (by decide) (by decide) (Nat.le_of_ble_eq_true rfl) (Nat.le_of_ble_eq_true rfl) rfl rfl rfl ?_
  show AW X 48 [some (aR 1), some (aI n)] [aR 5, aR 1] [oC 0 [aN, aN, aN], oC 1 [aI 0, aI 1, aI 0, aI 0, aR 2, aR 3, aR 4, aN, aN, aN, aN, aL 0], iC 40 z0, iC 40 z0, iC 40 z0, iC 40 z0] 3 360
  refine aw_putF K hnm fpi_Mo_31 d_Mo_init_48 rfl rfl (Nat.le_of_ble_eq_true rfl) (fun _ => ⟨rfl, rfl⟩) (w' := [oC 0 [aN, aN, aN], oC 1 [aI 0, aI 1, aI 0, aI 0, aR 2, aR 3, aR 4, aR 5, aN, aN, aN, aL 0], iC 40 z0, iC 40 z0, iC 40 z0, iC 40 z0]) rfl ?_
  refine aw_aload_n K d_Mo_init_51 rfl rfl ?_
  refine aw_sipush K d_Mo_init_52 rfl (v := 160) (by decide) ?_
  refine aw_newi K (hal.mono (Nat.le_of_ble_eq_true rfl)) d_Mo_init_55 rfl wa_int (N' := 160) (by decide) (by decide) (by decide) (Nat.le_of_ble_eq_true rfl) (Nat.le_of_ble_eq_true rfl) rfl rfl rfl ?_
  show AW X 57 [some (aR 1), some (aI n)] [aR 6, aR 1] [oC 0 [aN, aN, aN], oC 1 [aI 0, aI 1, aI 0, aI 0, aR 2, aR 3, aR 4, aR 5, aN, aN, aN, aL 0], iC 40 z0, iC 40 z0, iC 40 z0, iC 40 z0, iC 160 z0] 2 200
  refine aw_putF K hnm fpi_Mo_34 d_Mo_init_57 rfl rfl (Nat.le_of_ble_eq_true rfl) (fun _ => ⟨rfl, rfl⟩) (w' := [oC 0 [aN, aN, aN], oC 1 [aI 0, aI 1, aI 0, aI 0, aR 2, aR 3, aR 4, aR 5, aR 6, aN, aN, aL 0], iC 40 z0, iC 40 z0, iC 40 z0, iC 40 z0, iC 160 z0]) rfl ?_
  refine aw_aload_n K d_Mo_init_60 rfl rfl ?_
  refine aw_sipush K d_Mo_init_61 rfl (v := 160) (by decide) ?_
  refine aw_newi K (hal.mono (Nat.le_of_ble_eq_true rfl)) d_Mo_init_64 rfl wa_int (N' := 160) (by decide) (by decide) (by decide) (Nat.le_of_ble_eq_true rfl) (Nat.le_of_ble_eq_true rfl) rfl rfl rfl ?_
  show AW X 66 [some (aR 1), some (aI n)] [aR 7, aR 1] [oC 0 [aN, aN, aN], oC 1 [aI 0, aI 1, aI 0, aI 0, aR 2, aR 3, aR 4, aR 5, aR 6, aN, aN, aL 0], iC 40 z0, iC 40 z0, iC 40 z0, iC 40 z0, iC 160 z0, iC 160 z0] 1 40
  refine aw_putF K hnm fpi_Mo_37 d_Mo_init_66 rfl rfl (Nat.le_of_ble_eq_true rfl) (fun _ => ⟨rfl, rfl⟩) (w' := [oC 0 [aN, aN, aN], oC 1 [aI 0, aI 1, aI 0, aI 0, aR 2, aR 3, aR 4, aR 5, aR 6, aR 7, aN, aL 0], iC 40 z0, iC 40 z0, iC 40 z0, iC 40 z0, iC 160 z0, iC 160 z0]) rfl ?_
  refine aw_aload_n K d_Mo_init_69 rfl rfl ?_
  refine aw_bipush K d_Mo_init_70 rfl (v := 40) (by decide) ?_
  refine aw_newi K (hal.mono (Nat.le_of_ble_eq_true rfl)) d_Mo_init_72 rfl wa_int (N' := 40) (by decide) (by decide) (by decide) (Nat.le_of_ble_eq_true rfl) (Nat.le_of_ble_eq_true rfl) rfl rfl rfl ?_
  show AW X 74 [some (aR 1), some (aI n)] [aR 8, aR 1] [oC 0 [aN, aN, aN], oC 1 [aI 0, aI 1, aI 0, aI 0, aR 2, aR 3, aR 4, aR 5, aR 6, aR 7, aN, aL 0], iC 40 z0, iC 40 z0, iC 40 z0, iC 40 z0, iC 160 z0, iC 160 z0, iC 40 z0] 0 0
  refine aw_putF K hnm fpi_Mo_40 d_Mo_init_74 rfl rfl (Nat.le_of_ble_eq_true rfl) (fun _ => ⟨rfl, rfl⟩) (w' := [oC 0 [aN, aN, aN], oC 1 [aI 0, aI 1, aI 0, aI 0, aR 2, aR 3, aR 4, aR 5, aR 6, aR 7, aR 8, aL 0], iC 40 z0, iC 40 z0, iC 40 z0, iC 40 z0, iC 160 z0, iC 160 z0, iC 40 z0]) rfl ?_
  refine aw_aload_n K d_Mo_init_77 rfl rfl ?_
  refine aw_lconst K d_Mo_init_78 rfl (v := 0) (by decide) ?_
  refine aw_putf K fpi_Mo_43 d_Mo_init_79 rfl rfl (Nat.le_of_ble_eq_true rfl) (am_fit_l _) (w' := [oC 0 [aN, aN, aN], oC 1 [aI 0, aI 1, aI 0, aI 0, aR 2, aR 3, aR 4, aR 5, aR 6, aR 7, aR 8, aL 0], iC 40 z0, iC 40 z0, iC 40 z0, iC 40 z0, iC 160 z0, iC 160 z0, iC 40 z0]) rfl ?_
  refine aw_aload_n K d_Mo_init_82 rfl rfl ?_
  refine aw_iload_n K d_Mo_init_83 rfl rfl ?_
  refine aw_putF K hnm fpi_Mo_47 d_Mo_init_84 rfl rfl (Nat.le_of_ble_eq_true rfl) (am_fit_i _) (w' := [oC 0 [aN, aN, aN], oC 1 [aI n, aI 1, aI 0, aI 0, aR 2, aR 3, aR 4, aR 5, aR 6, aR 7, aR 8, aL 0], iC 40 z0, iC 40 z0, iC 40 z0, iC 40 z0, iC 160 z0, iC 160 z0, iC 40 z0]) rfl ?_
  exact aw_vret K hr d_Mo_init_87 hp
def sp_St_init : am_S := fun av w post => ∃ (n : Int32) (room : Nat), av = [aR 9, aI (nI room)] ∧ w = [oC 0 [aR 1, aN, aN], oC 1 [aI n, aI 1, aI 0, aI 0, aR 2, aR 3, aR 4, aR 5, aR 6, aR 7, aR 8, aL 0], iC 40 z0, iC 40 z0, iC 40 z0, iC 40 z0, iC 160 z0, iC 160 z0, iC 40 z0, oC 2 [aI 0, aN, aN, aN, aN, aN, aN, aN]] ∧ 1 ≤ room ∧ room ≤ 8192 ∧ ∀ e, rc_e room e → post none [oC 0 [aR 1, aN, aN], oC 1 [aI n, aI 1, aI 0, aI 0, aR 2, aR 3, aR 4, aR 5, aR 6, aR 7, aR 8, aL 0], iC 40 z0, iC 40 z0, iC 40 z0, iC 40 z0, iC 160 z0, iC 160 z0, iC 40 z0, oC 2 [aI 0, aR 10, aR 11, aR 12, aR 13, aR 14, aR 15, aR 16], jC room z0L, iC room z0, iC room z0, iC room z0, iC room z0, iC room z0, iC ((2 ^ e)) z0]
set_option maxRecDepth 20000 in
theorem c_St_init : Con y_St_init b_St_init 2 none 1 7 65536 true sp_St_init := by
  refine Con.of (by decide) (fun av w post h => by obtain ⟨n, room, rfl, -⟩ := h; exact Nat.le_of_ble_eq_true rfl) ?_
  intro X K hnm av w post h hr hal
  obtain ⟨n, room, rfl, rfl, h1, h4, hp⟩ := h
  replace hal := hal rfl
  refine aw_aload_n K d_St_init_0 rfl rfl ?_
  refine aw_objI K oi_St oi_2 oi_3 d_St_init_1 rfl (by decide) (Nat.le_of_ble_eq_true rfl) ?_
  refine aw_aload_n K d_St_init_4 rfl rfl ?_
  refine aw_iconst K d_St_init_5 rfl (v := 0) (by decide) ?_
  refine aw_putf K fpi_St_9 d_St_init_6 rfl rfl (Nat.le_of_ble_eq_true rfl) (am_fit_i _) (w' := [oC 0 [aR 1, aN, aN], oC 1 [aI n, aI 1, aI 0, aI 0, aR 2, aR 3, aR 4, aR 5, aR 6, aR 7, aR 8, aL 0], iC 40 z0, iC 40 z0, iC 40 z0, iC 40 z0, iC 160 z0, iC 160 z0, iC 40 z0, oC 2 [aI 0, aN, aN, aN, aN, aN, aN, aN]]) rfl ?_
  refine aw_aload_n K d_St_init_9 rfl rfl ?_
  refine aw_iload_n K d_St_init_10 rfl rfl ?_
  refine aw_newl K (hal.mono (Nat.le_of_ble_eq_true rfl)) d_St_init_11 rfl wa_long (N' := room) (nI_pos (by omega)) (nI_clamp (by omega)) (by show room * _ ≤ _; simp only [componentBytes]; omega) (Nat.le_of_ble_eq_true rfl) (by omega) rfl rfl rfl ?_
  refine aw_bud (bc' := 6) (bs' := 57344) (Nat.le_of_ble_eq_true rfl) (by omega) ?_
  show AW X 13 [some (aR 9), some (aI (nI room))] [aR 10, aR 9] [oC 0 [aR 1, aN, aN], oC 1 [aI n, aI 1, aI 0, aI 0, aR 2, aR 3, aR 4, aR 5, aR 6, aR 7, aR 8, aL 0], iC 40 z0, iC 40 z0, iC 40 z0, iC 40 z0, iC 160 z0, iC 160 z0, iC 40 z0, oC 2 [aI 0, aN, aN, aN, aN, aN, aN, aN], jC room z0L] 6 57344
  refine aw_putF K hnm fpi_St_15 d_St_init_13 rfl rfl (Nat.le_of_ble_eq_true rfl) (fun _ => ⟨rfl, rfl⟩) (w' := [oC 0 [aR 1, aN, aN], oC 1 [aI n, aI 1, aI 0, aI 0, aR 2, aR 3, aR 4, aR 5, aR 6, aR 7, aR 8, aL 0], iC 40 z0, iC 40 z0, iC 40 z0, iC 40 z0, iC 160 z0, iC 160 z0, iC 40 z0, oC 2 [aI 0, aR 10, aN, aN, aN, aN, aN, aN], jC room z0L]) rfl ?_
  refine aw_aload_n K d_St_init_16 rfl rfl ?_
  refine aw_iload_n K d_St_init_17 rfl rfl ?_
  refine aw_newi K (hal.mono (Nat.le_of_ble_eq_true rfl)) d_St_init_18 rfl wa_int (N' := room) (nI_pos (by omega)) (nI_clamp (by omega)) (by show room * _ ≤ _; simp only [componentBytes]; omega) (Nat.le_of_ble_eq_true rfl) (by omega) rfl rfl rfl ?_
  refine aw_bud (bc' := 5) (bs' := 49152) (Nat.le_of_ble_eq_true rfl) (by omega) ?_
  show AW X 20 [some (aR 9), some (aI (nI room))] [aR 11, aR 9] [oC 0 [aR 1, aN, aN], oC 1 [aI n, aI 1, aI 0, aI 0, aR 2, aR 3, aR 4, aR 5, aR 6, aR 7, aR 8, aL 0], iC 40 z0, iC 40 z0, iC 40 z0, iC 40 z0, iC 160 z0, iC 160 z0, iC 40 z0, oC 2 [aI 0, aR 10, aN, aN, aN, aN, aN, aN], jC room z0L, iC room z0] 5 49152
  refine aw_putF K hnm fpi_St_19 d_St_init_20 rfl rfl (Nat.le_of_ble_eq_true rfl) (fun _ => ⟨rfl, rfl⟩) (w' := [oC 0 [aR 1, aN, aN], oC 1 [aI n, aI 1, aI 0, aI 0, aR 2, aR 3, aR 4, aR 5, aR 6, aR 7, aR 8, aL 0], iC 40 z0, iC 40 z0, iC 40 z0, iC 40 z0, iC 160 z0, iC 160 z0, iC 40 z0, oC 2 [aI 0, aR 10, aR 11, aN, aN, aN, aN, aN], jC room z0L, iC room z0]) rfl ?_
  refine aw_aload_n K d_St_init_23 rfl rfl ?_
  refine aw_iload_n K d_St_init_24 rfl rfl ?_
  refine aw_newi K (hal.mono (Nat.le_of_ble_eq_true rfl)) d_St_init_25 rfl wa_int (N' := room) (nI_pos (by omega)) (nI_clamp (by omega)) (by show room * _ ≤ _; simp only [componentBytes]; omega) (Nat.le_of_ble_eq_true rfl) (by omega) rfl rfl rfl ?_
  refine aw_bud (bc' := 4) (bs' := 40960) (Nat.le_of_ble_eq_true rfl) (by omega) ?_
  show AW X 27 [some (aR 9), some (aI (nI room))] [aR 12, aR 9] [oC 0 [aR 1, aN, aN], oC 1 [aI n, aI 1, aI 0, aI 0, aR 2, aR 3, aR 4, aR 5, aR 6, aR 7, aR 8, aL 0], iC 40 z0, iC 40 z0, iC 40 z0, iC 40 z0, iC 160 z0, iC 160 z0, iC 40 z0, oC 2 [aI 0, aR 10, aR 11, aN, aN, aN, aN, aN], jC room z0L, iC room z0, iC room z0] 4 40960
  refine aw_putF K hnm fpi_St_23 d_St_init_27 rfl rfl (Nat.le_of_ble_eq_true rfl) (fun _ => ⟨rfl, rfl⟩) (w' := [oC 0 [aR 1, aN, aN], oC 1 [aI n, aI 1, aI 0, aI 0, aR 2, aR 3, aR 4, aR 5, aR 6, aR 7, aR 8, aL 0], iC 40 z0, iC 40 z0, iC 40 z0, iC 40 z0, iC 160 z0, iC 160 z0, iC 40 z0, oC 2 [aI 0, aR 10, aR 11, aR 12, aN, aN, aN, aN], jC room z0L, iC room z0, iC room z0]) rfl ?_
  refine aw_aload_n K d_St_init_30 rfl rfl ?_
  refine aw_iload_n K d_St_init_31 rfl rfl ?_
  refine aw_newi K (hal.mono (Nat.le_of_ble_eq_true rfl)) d_St_init_32 rfl wa_int (N' := room) (nI_pos (by omega)) (nI_clamp (by omega)) (by show room * _ ≤ _; simp only [componentBytes]; omega) (Nat.le_of_ble_eq_true rfl) (by omega) rfl rfl rfl ?_
  refine aw_bud (bc' := 3) (bs' := 32768) (Nat.le_of_ble_eq_true rfl) (by omega) ?_
  show AW X 34 [some (aR 9), some (aI (nI room))] [aR 13, aR 9] [oC 0 [aR 1, aN, aN], oC 1 [aI n, aI 1, aI 0, aI 0, aR 2, aR 3, aR 4, aR 5, aR 6, aR 7, aR 8, aL 0], iC 40 z0, iC 40 z0, iC 40 z0, iC 40 z0, iC 160 z0, iC 160 z0, iC 40 z0, oC 2 [aI 0, aR 10, aR 11, aR 12, aN, aN, aN, aN], jC room z0L, iC room z0, iC room z0, iC room z0] 3 32768
  refine aw_putF K hnm fpi_St_26 d_St_init_34 rfl rfl (Nat.le_of_ble_eq_true rfl) (fun _ => ⟨rfl, rfl⟩) (w' := [oC 0 [aR 1, aN, aN], oC 1 [aI n, aI 1, aI 0, aI 0, aR 2, aR 3, aR 4, aR 5, aR 6, aR 7, aR 8, aL 0], iC 40 z0, iC 40 z0, iC 40 z0, iC 40 z0, iC 160 z0, iC 160 z0, iC 40 z0, oC 2 [aI 0, aR 10, aR 11, aR 12, aR 13, aN, aN, aN], jC room z0L, iC room z0, iC room z0, iC room z0]) rfl ?_
  refine aw_aload_n K d_St_init_37 rfl rfl ?_
  refine aw_iload_n K d_St_init_38 rfl rfl ?_
  refine aw_newi K (hal.mono (Nat.le_of_ble_eq_true rfl)) d_St_init_39 rfl wa_int (N' := room) (nI_pos (by omega)) (nI_clamp (by omega)) (by show room * _ ≤ _; simp only [componentBytes]; omega) (Nat.le_of_ble_eq_true rfl) (by omega) rfl rfl rfl ?_
  refine aw_bud (bc' := 2) (bs' := 24576) (Nat.le_of_ble_eq_true rfl) (by omega) ?_
  show AW X 41 [some (aR 9), some (aI (nI room))] [aR 14, aR 9] [oC 0 [aR 1, aN, aN], oC 1 [aI n, aI 1, aI 0, aI 0, aR 2, aR 3, aR 4, aR 5, aR 6, aR 7, aR 8, aL 0], iC 40 z0, iC 40 z0, iC 40 z0, iC 40 z0, iC 160 z0, iC 160 z0, iC 40 z0, oC 2 [aI 0, aR 10, aR 11, aR 12, aR 13, aN, aN, aN], jC room z0L, iC room z0, iC room z0, iC room z0, iC room z0] 2 24576
  refine aw_putF K hnm fpi_St_29 d_St_init_41 rfl rfl (Nat.le_of_ble_eq_true rfl) (fun _ => ⟨rfl, rfl⟩) (w' := [oC 0 [aR 1, aN, aN], oC 1 [aI n, aI 1, aI 0, aI 0, aR 2, aR 3, aR 4, aR 5, aR 6, aR 7, aR 8, aL 0], iC 40 z0, iC 40 z0, iC 40 z0, iC 40 z0, iC 160 z0, iC 160 z0, iC 40 z0, oC 2 [aI 0, aR 10, aR 11, aR 12, aR 13, aR 14, aN, aN], jC room z0L, iC room z0, iC room z0, iC room z0, iC room z0]) rfl ?_
  refine aw_aload_n K d_St_init_44 rfl rfl ?_
  refine aw_iload_n K d_St_init_45 rfl rfl ?_
  refine aw_newi K (hal.mono (Nat.le_of_ble_eq_true rfl)) d_St_init_46 rfl wa_int (N' := room) (nI_pos (by omega)) (nI_clamp (by omega)) (by show room * _ ≤ _; simp only [componentBytes]; omega) (Nat.le_of_ble_eq_true rfl) (by omega) rfl rfl rfl ?_
  refine aw_bud (bc' := 1) (bs' := 16384) (Nat.le_of_ble_eq_true rfl) (by omega) ?_
  show AW X 48 [some (aR 9), some (aI (nI room))] [aR 15, aR 9] [oC 0 [aR 1, aN, aN], oC 1 [aI n, aI 1, aI 0, aI 0, aR 2, aR 3, aR 4, aR 5, aR 6, aR 7, aR 8, aL 0], iC 40 z0, iC 40 z0, iC 40 z0, iC 40 z0, iC 160 z0, iC 160 z0, iC 40 z0, oC 2 [aI 0, aR 10, aR 11, aR 12, aR 13, aR 14, aN, aN], jC room z0L, iC room z0, iC room z0, iC room z0, iC room z0, iC room z0] 1 16384
  refine aw_putF K hnm fpi_St_32 d_St_init_48 rfl rfl (Nat.le_of_ble_eq_true rfl) (fun _ => ⟨rfl, rfl⟩) (w' := [oC 0 [aR 1, aN, aN], oC 1 [aI n, aI 1, aI 0, aI 0, aR 2, aR 3, aR 4, aR 5, aR 6, aR 7, aR 8, aL 0], iC 40 z0, iC 40 z0, iC 40 z0, iC 40 z0, iC 160 z0, iC 160 z0, iC 40 z0, oC 2 [aI 0, aR 10, aR 11, aR 12, aR 13, aR 14, aR 15, aN], jC room z0L, iC room z0, iC room z0, iC room z0, iC room z0, iC room z0]) rfl ?_
  refine aw_aload_n K d_St_init_51 rfl rfl ?_
  refine aw_iload_n K d_St_init_52 rfl rfl ?_
  refine aw_callS K c_St_slotsFor cbi_St_35 cti_St_slotsFor (by decide) d_St_init_53 rfl (av := [aI (nI room)]) rfl (Nat.le_of_ble_eq_true rfl) (F := fun rv w9 => ∃ e, rc_e room e ∧ e ≤ 14 ∧ rv = some (aI (nI (2 ^ e))) ∧ w9 = [oC 0 [aR 1, aN, aN], oC 1 [aI n, aI 1, aI 0, aI 0, aR 2, aR 3, aR 4, aR 5, aR 6, aR 7, aR 8, aL 0], iC 40 z0, iC 40 z0, iC 40 z0, iC 40 z0, iC 160 z0, iC 160 z0, iC 40 z0, oC 2 [aI 0, aR 10, aR 11, aR 12, aR 13, aR 14, aR 15, aN], jC room z0L, iC room z0, iC room z0, iC room z0, iC room z0, iC room z0]) ⟨room, rfl, h1, h4, fun e he h9 => ⟨e, he, h9, rfl, rfl⟩⟩ ?_
  intro rv w9 hF
  obtain ⟨e, he, h14, rfl, rfl⟩ := hF
  have hpow : 2 ^ e ≤ 2 ^ 14 := Nat.pow_le_pow_right (by decide) h14
  show AW X 56 [some (aR 9), some (aI (nI room))] [aI (nI (2 ^ e)), aR 9] [oC 0 [aR 1, aN, aN], oC 1 [aI n, aI 1, aI 0, aI 0, aR 2, aR 3, aR 4, aR 5, aR 6, aR 7, aR 8, aL 0], iC 40 z0, iC 40 z0, iC 40 z0, iC 40 z0, iC 160 z0, iC 160 z0, iC 40 z0, oC 2 [aI 0, aR 10, aR 11, aR 12, aR 13, aR 14, aR 15, aN], jC room z0L, iC room z0, iC room z0, iC room z0, iC room z0, iC room z0] 1 16384
  refine aw_newi K (hal.mono (Nat.le_of_ble_eq_true rfl)) d_St_init_56 rfl wa_int (N' := (2 ^ e)) (nI_pos (by omega)) (nI_clamp (by omega)) (by show 2 ^ e * _ ≤ _; simp only [componentBytes]; omega) (Nat.le_of_ble_eq_true rfl) (by omega) rfl rfl rfl ?_
  refine aw_bud (bc' := 0) (bs' := 0) (Nat.le_of_ble_eq_true rfl) (by omega) ?_
  show AW X 58 [some (aR 9), some (aI (nI room))] [aR 16, aR 9] [oC 0 [aR 1, aN, aN], oC 1 [aI n, aI 1, aI 0, aI 0, aR 2, aR 3, aR 4, aR 5, aR 6, aR 7, aR 8, aL 0], iC 40 z0, iC 40 z0, iC 40 z0, iC 40 z0, iC 160 z0, iC 160 z0, iC 40 z0, oC 2 [aI 0, aR 10, aR 11, aR 12, aR 13, aR 14, aR 15, aN], jC room z0L, iC room z0, iC room z0, iC room z0, iC room z0, iC room z0, iC ((2 ^ e)) z0] 0 0
  refine aw_putF K hnm fpi_St_39 d_St_init_58 rfl rfl (Nat.le_of_ble_eq_true rfl) (fun _ => ⟨rfl, rfl⟩) (w' := [oC 0 [aR 1, aN, aN], oC 1 [aI n, aI 1, aI 0, aI 0, aR 2, aR 3, aR 4, aR 5, aR 6, aR 7, aR 8, aL 0], iC 40 z0, iC 40 z0, iC 40 z0, iC 40 z0, iC 160 z0, iC 160 z0, iC 40 z0, oC 2 [aI 0, aR 10, aR 11, aR 12, aR 13, aR 14, aR 15, aR 16], jC room z0L, iC room z0, iC room z0, iC room z0, iC room z0, iC room z0, iC ((2 ^ e)) z0]) rfl ?_
  exact aw_vret K hr d_St_init_61 (hp e he)
def sp_Dr_init_18 : am_S := fun av w post => ∃ (N room e : Nat), av = [aR 18, aI (nI N)] ∧ w = [oC 0 [aR 1, aR 9, aN], oC 1 [aI (nI N), aI 1, aI 0, aI 0, aR 2, aR 3, aR 4, aR 5, aR 6, aR 7, aR 8, aL 0], iC 40 z0, iC 40 z0, iC 40 z0, iC 40 z0, iC 160 z0, iC 160 z0, iC 40 z0, oC 2 [aI 0, aR 10, aR 11, aR 12, aR 13, aR 14, aR 15, aR 16], jC room z0L, iC room z0, iC room z0, iC room z0, iC room z0, iC room z0, iC ((2 ^ e)) z0, oC 3 [aR 1, aR 9, aI 0, aI 0, aI 0, aI 0, aI 0, aI 0, aI 0, aN, aN], oC 4 [aI 0, aI 0, aN, aN, aI 0, aL 0, aI 0, aN]] ∧ 1 ≤ N ∧ N ≤ 4 ∧ post none [oC 0 [aR 1, aR 9, aN], oC 1 [aI (nI N), aI 1, aI 0, aI 0, aR 2, aR 3, aR 4, aR 5, aR 6, aR 7, aR 8, aL 0], iC 40 z0, iC 40 z0, iC 40 z0, iC 40 z0, iC 160 z0, iC 160 z0, iC 40 z0, oC 2 [aI 0, aR 10, aR 11, aR 12, aR 13, aR 14, aR 15, aR 16], jC room z0L, iC room z0, iC room z0, iC room z0, iC room z0, iC room z0, iC ((2 ^ e)) z0, oC 3 [aR 1, aR 9, aI 0, aI 0, aI 0, aI 0, aI 0, aI 0, aI 0, aN, aN], oC 4 [aI (nI N), aI (nI (sp_fc N)), aR 19, aR 20, aI 0, aL 0, aI 0, aR 21], iC 4 z0, iC 7 z0, iC 7 z0]
set_option maxRecDepth 20000 in
theorem c_Dr_init_18 : Con y_Dr_init b_Dr_init 2 none 2 3 18 true sp_Dr_init_18 := by
  refine Con.of (by decide) (fun av w post h => by obtain ⟨N, room, e, rfl, -⟩ := h; exact Nat.le_of_ble_eq_true rfl) ?_
  intro X K hnm av w post h hr hal
  obtain ⟨N, room, e, rfl, rfl, h1, h4, hp⟩ := h
  replace hal := hal rfl
  refine aw_aload_n K d_Dr_init_0 rfl rfl ?_
  refine aw_objI K oi_Dr oi_2 oi_3 d_Dr_init_1 rfl (by decide) (Nat.le_of_ble_eq_true rfl) ?_
  refine aw_aload_n K d_Dr_init_4 rfl rfl ?_
  refine aw_iconst K d_Dr_init_5 rfl (v := 4) (by decide) ?_
  refine aw_newi K (hal.mono (Nat.le_of_ble_eq_true rfl)) d_Dr_init_6 rfl wa_int (N' := 4) (by decide) (by decide) (by decide) (Nat.le_of_ble_eq_true rfl) (Nat.le_of_ble_eq_true rfl) rfl rfl rfl ?_
  show AW X 8 [some (aR 18), some (aI (nI N))] [aR 19, aR 18] [oC 0 [aR 1, aR 9, aN], oC 1 [aI (nI N), aI 1, aI 0, aI 0, aR 2, aR 3, aR 4, aR 5, aR 6, aR 7, aR 8, aL 0], iC 40 z0, iC 40 z0, iC 40 z0, iC 40 z0, iC 160 z0, iC 160 z0, iC 40 z0, oC 2 [aI 0, aR 10, aR 11, aR 12, aR 13, aR 14, aR 15, aR 16], jC room z0L, iC room z0, iC room z0, iC room z0, iC room z0, iC room z0, iC ((2 ^ e)) z0, oC 3 [aR 1, aR 9, aI 0, aI 0, aI 0, aI 0, aI 0, aI 0, aI 0, aN, aN], oC 4 [aI 0, aI 0, aN, aN, aI 0, aL 0, aI 0, aN], iC 4 z0] 2 14
  refine aw_putF K hnm fpi_Dr_9 d_Dr_init_8 rfl rfl (Nat.le_of_ble_eq_true rfl) (fun _ => ⟨rfl, rfl⟩) (w' := [oC 0 [aR 1, aR 9, aN], oC 1 [aI (nI N), aI 1, aI 0, aI 0, aR 2, aR 3, aR 4, aR 5, aR 6, aR 7, aR 8, aL 0], iC 40 z0, iC 40 z0, iC 40 z0, iC 40 z0, iC 160 z0, iC 160 z0, iC 40 z0, oC 2 [aI 0, aR 10, aR 11, aR 12, aR 13, aR 14, aR 15, aR 16], jC room z0L, iC room z0, iC room z0, iC room z0, iC room z0, iC room z0, iC ((2 ^ e)) z0, oC 3 [aR 1, aR 9, aI 0, aI 0, aI 0, aI 0, aI 0, aI 0, aI 0, aN, aN], oC 4 [aI 0, aI 0, aR 19, aN, aI 0, aL 0, aI 0, aN], iC 4 z0]) rfl ?_
  refine aw_aload_n K d_Dr_init_11 rfl rfl ?_
  refine aw_bipush K d_Dr_init_12 rfl (v := 7) (by decide) ?_
  refine aw_newi K (hal.mono (Nat.le_of_ble_eq_true rfl)) d_Dr_init_14 rfl wa_int (N' := 7) (by decide) (by decide) (by decide) (Nat.le_of_ble_eq_true rfl) (Nat.le_of_ble_eq_true rfl) rfl rfl rfl ?_
  show AW X 16 [some (aR 18), some (aI (nI N))] [aR 20, aR 18] [oC 0 [aR 1, aR 9, aN], oC 1 [aI (nI N), aI 1, aI 0, aI 0, aR 2, aR 3, aR 4, aR 5, aR 6, aR 7, aR 8, aL 0], iC 40 z0, iC 40 z0, iC 40 z0, iC 40 z0, iC 160 z0, iC 160 z0, iC 40 z0, oC 2 [aI 0, aR 10, aR 11, aR 12, aR 13, aR 14, aR 15, aR 16], jC room z0L, iC room z0, iC room z0, iC room z0, iC room z0, iC room z0, iC ((2 ^ e)) z0, oC 3 [aR 1, aR 9, aI 0, aI 0, aI 0, aI 0, aI 0, aI 0, aI 0, aN, aN], oC 4 [aI 0, aI 0, aR 19, aN, aI 0, aL 0, aI 0, aN], iC 4 z0, iC 7 z0] 1 7
  refine aw_putF K hnm fpi_Dr_15 d_Dr_init_16 rfl rfl (Nat.le_of_ble_eq_true rfl) (fun _ => ⟨rfl, rfl⟩) (w' := [oC 0 [aR 1, aR 9, aN], oC 1 [aI (nI N), aI 1, aI 0, aI 0, aR 2, aR 3, aR 4, aR 5, aR 6, aR 7, aR 8, aL 0], iC 40 z0, iC 40 z0, iC 40 z0, iC 40 z0, iC 160 z0, iC 160 z0, iC 40 z0, oC 2 [aI 0, aR 10, aR 11, aR 12, aR 13, aR 14, aR 15, aR 16], jC room z0L, iC room z0, iC room z0, iC room z0, iC room z0, iC room z0, iC ((2 ^ e)) z0, oC 3 [aR 1, aR 9, aI 0, aI 0, aI 0, aI 0, aI 0, aI 0, aI 0, aN, aN], oC 4 [aI 0, aI 0, aR 19, aR 20, aI 0, aL 0, aI 0, aN], iC 4 z0, iC 7 z0]) rfl ?_
  refine aw_aload_n K d_Dr_init_19 rfl rfl ?_
  refine aw_iconst K d_Dr_init_20 rfl (v := 0) (by decide) ?_
  refine aw_putf K fpi_Dr_18 d_Dr_init_21 rfl rfl (Nat.le_of_ble_eq_true rfl) (am_fit_i _) (w' := [oC 0 [aR 1, aR 9, aN], oC 1 [aI (nI N), aI 1, aI 0, aI 0, aR 2, aR 3, aR 4, aR 5, aR 6, aR 7, aR 8, aL 0], iC 40 z0, iC 40 z0, iC 40 z0, iC 40 z0, iC 160 z0, iC 160 z0, iC 40 z0, oC 2 [aI 0, aR 10, aR 11, aR 12, aR 13, aR 14, aR 15, aR 16], jC room z0L, iC room z0, iC room z0, iC room z0, iC room z0, iC room z0, iC ((2 ^ e)) z0, oC 3 [aR 1, aR 9, aI 0, aI 0, aI 0, aI 0, aI 0, aI 0, aI 0, aN, aN], oC 4 [aI 0, aI 0, aR 19, aR 20, aI 0, aL 0, aI 0, aN], iC 4 z0, iC 7 z0]) rfl ?_
  refine aw_aload_n K d_Dr_init_24 rfl rfl ?_
  refine aw_lconst K d_Dr_init_25 rfl (v := 0) (by decide) ?_
  refine aw_putf K fpi_Dr_22 d_Dr_init_26 rfl rfl (Nat.le_of_ble_eq_true rfl) (am_fit_l _) (w' := [oC 0 [aR 1, aR 9, aN], oC 1 [aI (nI N), aI 1, aI 0, aI 0, aR 2, aR 3, aR 4, aR 5, aR 6, aR 7, aR 8, aL 0], iC 40 z0, iC 40 z0, iC 40 z0, iC 40 z0, iC 160 z0, iC 160 z0, iC 40 z0, oC 2 [aI 0, aR 10, aR 11, aR 12, aR 13, aR 14, aR 15, aR 16], jC room z0L, iC room z0, iC room z0, iC room z0, iC room z0, iC room z0, iC ((2 ^ e)) z0, oC 3 [aR 1, aR 9, aI 0, aI 0, aI 0, aI 0, aI 0, aI 0, aI 0, aN, aN], oC 4 [aI 0, aI 0, aR 19, aR 20, aI 0, aL 0, aI 0, aN], iC 4 z0, iC 7 z0]) rfl ?_
  refine aw_aload_n K d_Dr_init_29 rfl rfl ?_
  refine aw_iconst K d_Dr_init_30 rfl (v := 0) (by decide) ?_
  refine aw_putf K fpi_Dr_26 d_Dr_init_31 rfl rfl (Nat.le_of_ble_eq_true rfl) (am_fit_i _) (w' := [oC 0 [aR 1, aR 9, aN], oC 1 [aI (nI N), aI 1, aI 0, aI 0, aR 2, aR 3, aR 4, aR 5, aR 6, aR 7, aR 8, aL 0], iC 40 z0, iC 40 z0, iC 40 z0, iC 40 z0, iC 160 z0, iC 160 z0, iC 40 z0, oC 2 [aI 0, aR 10, aR 11, aR 12, aR 13, aR 14, aR 15, aR 16], jC room z0L, iC room z0, iC room z0, iC room z0, iC room z0, iC room z0, iC ((2 ^ e)) z0, oC 3 [aR 1, aR 9, aI 0, aI 0, aI 0, aI 0, aI 0, aI 0, aI 0, aN, aN], oC 4 [aI 0, aI 0, aR 19, aR 20, aI 0, aL 0, aI 0, aN], iC 4 z0, iC 7 z0]) rfl ?_
  refine aw_aload_n K d_Dr_init_34 rfl rfl ?_
  refine aw_bipush K d_Dr_init_35 rfl (v := 7) (by decide) ?_
  refine aw_newi K (hal.mono (Nat.le_of_ble_eq_true rfl)) d_Dr_init_37 rfl wa_int (N' := 7) (by decide) (by decide) (by decide) (Nat.le_of_ble_eq_true rfl) (Nat.le_of_ble_eq_true rfl) rfl rfl rfl ?_
  show AW X 39 [some (aR 18), some (aI (nI N))] [aR 21, aR 18] [oC 0 [aR 1, aR 9, aN], oC 1 [aI (nI N), aI 1, aI 0, aI 0, aR 2, aR 3, aR 4, aR 5, aR 6, aR 7, aR 8, aL 0], iC 40 z0, iC 40 z0, iC 40 z0, iC 40 z0, iC 160 z0, iC 160 z0, iC 40 z0, oC 2 [aI 0, aR 10, aR 11, aR 12, aR 13, aR 14, aR 15, aR 16], jC room z0L, iC room z0, iC room z0, iC room z0, iC room z0, iC room z0, iC ((2 ^ e)) z0, oC 3 [aR 1, aR 9, aI 0, aI 0, aI 0, aI 0, aI 0, aI 0, aI 0, aN, aN], oC 4 [aI 0, aI 0, aR 19, aR 20, aI 0, aL 0, aI 0, aN], iC 4 z0, iC 7 z0, iC 7 z0] 0 0
  refine aw_putF K hnm fpi_Dr_29 d_Dr_init_39 rfl rfl (Nat.le_of_ble_eq_true rfl) (fun _ => ⟨rfl, rfl⟩) (w' := [oC 0 [aR 1, aR 9, aN], oC 1 [aI (nI N), aI 1, aI 0, aI 0, aR 2, aR 3, aR 4, aR 5, aR 6, aR 7, aR 8, aL 0], iC 40 z0, iC 40 z0, iC 40 z0, iC 40 z0, iC 160 z0, iC 160 z0, iC 40 z0, oC 2 [aI 0, aR 10, aR 11, aR 12, aR 13, aR 14, aR 15, aR 16], jC room z0L, iC room z0, iC room z0, iC room z0, iC room z0, iC room z0, iC ((2 ^ e)) z0, oC 3 [aR 1, aR 9, aI 0, aI 0, aI 0, aI 0, aI 0, aI 0, aI 0, aN, aN], oC 4 [aI 0, aI 0, aR 19, aR 20, aI 0, aL 0, aI 0, aR 21], iC 4 z0, iC 7 z0, iC 7 z0]) rfl ?_
  refine aw_aload_n K d_Dr_init_42 rfl rfl ?_
  refine aw_iload_n K d_Dr_init_43 rfl rfl ?_
  refine aw_putF K hnm fpi_Dr_32 d_Dr_init_44 rfl rfl (Nat.le_of_ble_eq_true rfl) (am_fit_i _) (w' := [oC 0 [aR 1, aR 9, aN], oC 1 [aI (nI N), aI 1, aI 0, aI 0, aR 2, aR 3, aR 4, aR 5, aR 6, aR 7, aR 8, aL 0], iC 40 z0, iC 40 z0, iC 40 z0, iC 40 z0, iC 160 z0, iC 160 z0, iC 40 z0, oC 2 [aI 0, aR 10, aR 11, aR 12, aR 13, aR 14, aR 15, aR 16], jC room z0L, iC room z0, iC room z0, iC room z0, iC room z0, iC room z0, iC ((2 ^ e)) z0, oC 3 [aR 1, aR 9, aI 0, aI 0, aI 0, aI 0, aI 0, aI 0, aI 0, aN, aN], oC 4 [aI (nI N), aI 0, aR 19, aR 20, aI 0, aL 0, aI 0, aR 21], iC 4 z0, iC 7 z0, iC 7 z0]) rfl ?_
  refine aw_aload_n K d_Dr_init_47 rfl rfl ?_
  refine aw_iload_n K d_Dr_init_48 rfl rfl ?_
  refine aw_callSN K c_SE_numW cb_Dr_35 ct_SE_numberingsOf (by decide) d_Dr_init_49 rfl (av := [aI (nI N)]) rfl (Nat.le_of_ble_eq_true rfl) (F := fun rv w9 => rv = some (aI (nI (sp_fc N))) ∧ w9 = [oC 0 [aR 1, aR 9, aN], oC 1 [aI (nI N), aI 1, aI 0, aI 0, aR 2, aR 3, aR 4, aR 5, aR 6, aR 7, aR 8, aL 0], iC 40 z0, iC 40 z0, iC 40 z0, iC 40 z0, iC 160 z0, iC 160 z0, iC 40 z0, oC 2 [aI 0, aR 10, aR 11, aR 12, aR 13, aR 14, aR 15, aR 16], jC room z0L, iC room z0, iC room z0, iC room z0, iC room z0, iC room z0, iC ((2 ^ e)) z0, oC 3 [aR 1, aR 9, aI 0, aI 0, aI 0, aI 0, aI 0, aI 0, aI 0, aN, aN], oC 4 [aI (nI N), aI 0, aR 19, aR 20, aI 0, aL 0, aI 0, aR 21], iC 4 z0, iC 7 z0, iC 7 z0]) ⟨N, rfl, h1, h4, rfl, rfl⟩ ?_
  intro rv w9 hF
  obtain ⟨rfl, rfl⟩ := hF
  show AW X 52 [some (aR 18), some (aI (nI N))] [aI (nI (sp_fc N)), aR 18] [oC 0 [aR 1, aR 9, aN], oC 1 [aI (nI N), aI 1, aI 0, aI 0, aR 2, aR 3, aR 4, aR 5, aR 6, aR 7, aR 8, aL 0], iC 40 z0, iC 40 z0, iC 40 z0, iC 40 z0, iC 160 z0, iC 160 z0, iC 40 z0, oC 2 [aI 0, aR 10, aR 11, aR 12, aR 13, aR 14, aR 15, aR 16], jC room z0L, iC room z0, iC room z0, iC room z0, iC room z0, iC room z0, iC ((2 ^ e)) z0, oC 3 [aR 1, aR 9, aI 0, aI 0, aI 0, aI 0, aI 0, aI 0, aI 0, aN, aN], oC 4 [aI (nI N), aI 0, aR 19, aR 20, aI 0, aL 0, aI 0, aR 21], iC 4 z0, iC 7 z0, iC 7 z0] 0 0
  refine aw_putF K hnm fpi_Dr_39 d_Dr_init_52 rfl rfl (Nat.le_of_ble_eq_true rfl) (am_fit_i _) (w' := [oC 0 [aR 1, aR 9, aN], oC 1 [aI (nI N), aI 1, aI 0, aI 0, aR 2, aR 3, aR 4, aR 5, aR 6, aR 7, aR 8, aL 0], iC 40 z0, iC 40 z0, iC 40 z0, iC 40 z0, iC 160 z0, iC 160 z0, iC 40 z0, oC 2 [aI 0, aR 10, aR 11, aR 12, aR 13, aR 14, aR 15, aR 16], jC room z0L, iC room z0, iC room z0, iC room z0, iC room z0, iC room z0, iC ((2 ^ e)) z0, oC 3 [aR 1, aR 9, aI 0, aI 0, aI 0, aI 0, aI 0, aI 0, aI 0, aN, aN], oC 4 [aI (nI N), aI (nI (sp_fc N)), aR 19, aR 20, aI 0, aL 0, aI 0, aR 21], iC 4 z0, iC 7 z0, iC 7 z0]) rfl ?_
  exact aw_vret K hr d_Dr_init_55 hp
def sp_Dr_init_22 : am_S := fun av w post => ∃ (N room e : Nat), av = [aR 22, aI (nI N)] ∧ w = [oC 0 [aR 1, aR 9, aN], oC 1 [aI (nI N), aI 1, aI 0, aI 0, aR 2, aR 3, aR 4, aR 5, aR 6, aR 7, aR 8, aL 0], iC 40 z0, iC 40 z0, iC 40 z0, iC 40 z0, iC 160 z0, iC 160 z0, iC 40 z0, oC 2 [aI 0, aR 10, aR 11, aR 12, aR 13, aR 14, aR 15, aR 16], jC room z0L, iC room z0, iC room z0, iC room z0, iC room z0, iC room z0, iC ((2 ^ e)) z0, oC 3 [aR 1, aR 9, aI 0, aI 0, aI 0, aI 0, aI 0, aI 0, aI 0, aR 18, aN], oC 4 [aI (nI N), aI (nI (sp_fc N)), aR 19, aR 20, aI 0, aL 0, aI 0, aR 21], iC 4 z0, iC 7 z0, iC 7 z0, oC 4 [aI 0, aI 0, aN, aN, aI 0, aL 0, aI 0, aN]] ∧ 1 ≤ N ∧ N ≤ 4 ∧ post none [oC 0 [aR 1, aR 9, aN], oC 1 [aI (nI N), aI 1, aI 0, aI 0, aR 2, aR 3, aR 4, aR 5, aR 6, aR 7, aR 8, aL 0], iC 40 z0, iC 40 z0, iC 40 z0, iC 40 z0, iC 160 z0, iC 160 z0, iC 40 z0, oC 2 [aI 0, aR 10, aR 11, aR 12, aR 13, aR 14, aR 15, aR 16], jC room z0L, iC room z0, iC room z0, iC room z0, iC room z0, iC room z0, iC ((2 ^ e)) z0, oC 3 [aR 1, aR 9, aI 0, aI 0, aI 0, aI 0, aI 0, aI 0, aI 0, aR 18, aN], oC 4 [aI (nI N), aI (nI (sp_fc N)), aR 19, aR 20, aI 0, aL 0, aI 0, aR 21], iC 4 z0, iC 7 z0, iC 7 z0, oC 4 [aI (nI N), aI (nI (sp_fc N)), aR 23, aR 24, aI 0, aL 0, aI 0, aR 25], iC 4 z0, iC 7 z0, iC 7 z0]
set_option maxRecDepth 20000 in
theorem c_Dr_init_22 : Con y_Dr_init b_Dr_init 2 none 2 3 18 true sp_Dr_init_22 := by
  refine Con.of (by decide) (fun av w post h => by obtain ⟨N, room, e, rfl, -⟩ := h; exact Nat.le_of_ble_eq_true rfl) ?_
  intro X K hnm av w post h hr hal
  obtain ⟨N, room, e, rfl, rfl, h1, h4, hp⟩ := h
  replace hal := hal rfl
  refine aw_aload_n K d_Dr_init_0 rfl rfl ?_
  refine aw_objI K oi_Dr oi_2 oi_3 d_Dr_init_1 rfl (by decide) (Nat.le_of_ble_eq_true rfl) ?_
  refine aw_aload_n K d_Dr_init_4 rfl rfl ?_
  refine aw_iconst K d_Dr_init_5 rfl (v := 4) (by decide) ?_
  refine aw_newi K (hal.mono (Nat.le_of_ble_eq_true rfl)) d_Dr_init_6 rfl wa_int (N' := 4) (by decide) (by decide) (by decide) (Nat.le_of_ble_eq_true rfl) (Nat.le_of_ble_eq_true rfl) rfl rfl rfl ?_
  show AW X 8 [some (aR 22), some (aI (nI N))] [aR 23, aR 22] [oC 0 [aR 1, aR 9, aN], oC 1 [aI (nI N), aI 1, aI 0, aI 0, aR 2, aR 3, aR 4, aR 5, aR 6, aR 7, aR 8, aL 0], iC 40 z0, iC 40 z0, iC 40 z0, iC 40 z0, iC 160 z0, iC 160 z0, iC 40 z0, oC 2 [aI 0, aR 10, aR 11, aR 12, aR 13, aR 14, aR 15, aR 16], jC room z0L, iC room z0, iC room z0, iC room z0, iC room z0, iC room z0, iC ((2 ^ e)) z0, oC 3 [aR 1, aR 9, aI 0, aI 0, aI 0, aI 0, aI 0, aI 0, aI 0, aR 18, aN], oC 4 [aI (nI N), aI (nI (sp_fc N)), aR 19, aR 20, aI 0, aL 0, aI 0, aR 21], iC 4 z0, iC 7 z0, iC 7 z0, oC 4 [aI 0, aI 0, aN, aN, aI 0, aL 0, aI 0, aN], iC 4 z0] 2 14
  refine aw_putF K hnm fpi_Dr_9 d_Dr_init_8 rfl rfl (Nat.le_of_ble_eq_true rfl) (fun _ => ⟨rfl, rfl⟩) (w' := [oC 0 [aR 1, aR 9, aN], oC 1 [aI (nI N), aI 1, aI 0, aI 0, aR 2, aR 3, aR 4, aR 5, aR 6, aR 7, aR 8, aL 0], iC 40 z0, iC 40 z0, iC 40 z0, iC 40 z0, iC 160 z0, iC 160 z0, iC 40 z0, oC 2 [aI 0, aR 10, aR 11, aR 12, aR 13, aR 14, aR 15, aR 16], jC room z0L, iC room z0, iC room z0, iC room z0, iC room z0, iC room z0, iC ((2 ^ e)) z0, oC 3 [aR 1, aR 9, aI 0, aI 0, aI 0, aI 0, aI 0, aI 0, aI 0, aR 18, aN], oC 4 [aI (nI N), aI (nI (sp_fc N)), aR 19, aR 20, aI 0, aL 0, aI 0, aR 21], iC 4 z0, iC 7 z0, iC 7 z0, oC 4 [aI 0, aI 0, aR 23, aN, aI 0, aL 0, aI 0, aN], iC 4 z0]) rfl ?_
  refine aw_aload_n K d_Dr_init_11 rfl rfl ?_
  refine aw_bipush K d_Dr_init_12 rfl (v := 7) (by decide) ?_
  refine aw_newi K (hal.mono (Nat.le_of_ble_eq_true rfl)) d_Dr_init_14 rfl wa_int (N' := 7) (by decide) (by decide) (by decide) (Nat.le_of_ble_eq_true rfl) (Nat.le_of_ble_eq_true rfl) rfl rfl rfl ?_
  show AW X 16 [some (aR 22), some (aI (nI N))] [aR 24, aR 22] [oC 0 [aR 1, aR 9, aN], oC 1 [aI (nI N), aI 1, aI 0, aI 0, aR 2, aR 3, aR 4, aR 5, aR 6, aR 7, aR 8, aL 0], iC 40 z0, iC 40 z0, iC 40 z0, iC 40 z0, iC 160 z0, iC 160 z0, iC 40 z0, oC 2 [aI 0, aR 10, aR 11, aR 12, aR 13, aR 14, aR 15, aR 16], jC room z0L, iC room z0, iC room z0, iC room z0, iC room z0, iC room z0, iC ((2 ^ e)) z0, oC 3 [aR 1, aR 9, aI 0, aI 0, aI 0, aI 0, aI 0, aI 0, aI 0, aR 18, aN], oC 4 [aI (nI N), aI (nI (sp_fc N)), aR 19, aR 20, aI 0, aL 0, aI 0, aR 21], iC 4 z0, iC 7 z0, iC 7 z0, oC 4 [aI 0, aI 0, aR 23, aN, aI 0, aL 0, aI 0, aN], iC 4 z0, iC 7 z0] 1 7
  refine aw_putF K hnm fpi_Dr_15 d_Dr_init_16 rfl rfl (Nat.le_of_ble_eq_true rfl) (fun _ => ⟨rfl, rfl⟩) (w' := [oC 0 [aR 1, aR 9, aN], oC 1 [aI (nI N), aI 1, aI 0, aI 0, aR 2, aR 3, aR 4, aR 5, aR 6, aR 7, aR 8, aL 0], iC 40 z0, iC 40 z0, iC 40 z0, iC 40 z0, iC 160 z0, iC 160 z0, iC 40 z0, oC 2 [aI 0, aR 10, aR 11, aR 12, aR 13, aR 14, aR 15, aR 16], jC room z0L, iC room z0, iC room z0, iC room z0, iC room z0, iC room z0, iC ((2 ^ e)) z0, oC 3 [aR 1, aR 9, aI 0, aI 0, aI 0, aI 0, aI 0, aI 0, aI 0, aR 18, aN], oC 4 [aI (nI N), aI (nI (sp_fc N)), aR 19, aR 20, aI 0, aL 0, aI 0, aR 21], iC 4 z0, iC 7 z0, iC 7 z0, oC 4 [aI 0, aI 0, aR 23, aR 24, aI 0, aL 0, aI 0, aN], iC 4 z0, iC 7 z0]) rfl ?_
  refine aw_aload_n K d_Dr_init_19 rfl rfl ?_
  refine aw_iconst K d_Dr_init_20 rfl (v := 0) (by decide) ?_
  refine aw_putf K fpi_Dr_18 d_Dr_init_21 rfl rfl (Nat.le_of_ble_eq_true rfl) (am_fit_i _) (w' := [oC 0 [aR 1, aR 9, aN], oC 1 [aI (nI N), aI 1, aI 0, aI 0, aR 2, aR 3, aR 4, aR 5, aR 6, aR 7, aR 8, aL 0], iC 40 z0, iC 40 z0, iC 40 z0, iC 40 z0, iC 160 z0, iC 160 z0, iC 40 z0, oC 2 [aI 0, aR 10, aR 11, aR 12, aR 13, aR 14, aR 15, aR 16], jC room z0L, iC room z0, iC room z0, iC room z0, iC room z0, iC room z0, iC ((2 ^ e)) z0, oC 3 [aR 1, aR 9, aI 0, aI 0, aI 0, aI 0, aI 0, aI 0, aI 0, aR 18, aN], oC 4 [aI (nI N), aI (nI (sp_fc N)), aR 19, aR 20, aI 0, aL 0, aI 0, aR 21], iC 4 z0, iC 7 z0, iC 7 z0, oC 4 [aI 0, aI 0, aR 23, aR 24, aI 0, aL 0, aI 0, aN], iC 4 z0, iC 7 z0]) rfl ?_
  refine aw_aload_n K d_Dr_init_24 rfl rfl ?_
  refine aw_lconst K d_Dr_init_25 rfl (v := 0) (by decide) ?_
  refine aw_putf K fpi_Dr_22 d_Dr_init_26 rfl rfl (Nat.le_of_ble_eq_true rfl) (am_fit_l _) (w' := [oC 0 [aR 1, aR 9, aN], oC 1 [aI (nI N), aI 1, aI 0, aI 0, aR 2, aR 3, aR 4, aR 5, aR 6, aR 7, aR 8, aL 0], iC 40 z0, iC 40 z0, iC 40 z0, iC 40 z0, iC 160 z0, iC 160 z0, iC 40 z0, oC 2 [aI 0, aR 10, aR 11, aR 12, aR 13, aR 14, aR 15, aR 16], jC room z0L, iC room z0, iC room z0, iC room z0, iC room z0, iC room z0, iC ((2 ^ e)) z0, oC 3 [aR 1, aR 9, aI 0, aI 0, aI 0, aI 0, aI 0, aI 0, aI 0, aR 18, aN], oC 4 [aI (nI N), aI (nI (sp_fc N)), aR 19, aR 20, aI 0, aL 0, aI 0, aR 21], iC 4 z0, iC 7 z0, iC 7 z0, oC 4 [aI 0, aI 0, aR 23, aR 24, aI 0, aL 0, aI 0, aN], iC 4 z0, iC 7 z0]) rfl ?_
  refine aw_aload_n K d_Dr_init_29 rfl rfl ?_
  refine aw_iconst K d_Dr_init_30 rfl (v := 0) (by decide) ?_
  refine aw_putf K fpi_Dr_26 d_Dr_init_31 rfl rfl (Nat.le_of_ble_eq_true rfl) (am_fit_i _) (w' := [oC 0 [aR 1, aR 9, aN], oC 1 [aI (nI N), aI 1, aI 0, aI 0, aR 2, aR 3, aR 4, aR 5, aR 6, aR 7, aR 8, aL 0], iC 40 z0, iC 40 z0, iC 40 z0, iC 40 z0, iC 160 z0, iC 160 z0, iC 40 z0, oC 2 [aI 0, aR 10, aR 11, aR 12, aR 13, aR 14, aR 15, aR 16], jC room z0L, iC room z0, iC room z0, iC room z0, iC room z0, iC room z0, iC ((2 ^ e)) z0, oC 3 [aR 1, aR 9, aI 0, aI 0, aI 0, aI 0, aI 0, aI 0, aI 0, aR 18, aN], oC 4 [aI (nI N), aI (nI (sp_fc N)), aR 19, aR 20, aI 0, aL 0, aI 0, aR 21], iC 4 z0, iC 7 z0, iC 7 z0, oC 4 [aI 0, aI 0, aR 23, aR 24, aI 0, aL 0, aI 0, aN], iC 4 z0, iC 7 z0]) rfl ?_
  refine aw_aload_n K d_Dr_init_34 rfl rfl ?_
  refine aw_bipush K d_Dr_init_35 rfl (v := 7) (by decide) ?_
  refine aw_newi K (hal.mono (Nat.le_of_ble_eq_true rfl)) d_Dr_init_37 rfl wa_int (N' := 7) (by decide) (by decide) (by decide) (Nat.le_of_ble_eq_true rfl) (Nat.le_of_ble_eq_true rfl) rfl rfl rfl ?_
  show AW X 39 [some (aR 22), some (aI (nI N))] [aR 25, aR 22] [oC 0 [aR 1, aR 9, aN], oC 1 [aI (nI N), aI 1, aI 0, aI 0, aR 2, aR 3, aR 4, aR 5, aR 6, aR 7, aR 8, aL 0], iC 40 z0, iC 40 z0, iC 40 z0, iC 40 z0, iC 160 z0, iC 160 z0, iC 40 z0, oC 2 [aI 0, aR 10, aR 11, aR 12, aR 13, aR 14, aR 15, aR 16], jC room z0L, iC room z0, iC room z0, iC room z0, iC room z0, iC room z0, iC ((2 ^ e)) z0, oC 3 [aR 1, aR 9, aI 0, aI 0, aI 0, aI 0, aI 0, aI 0, aI 0, aR 18, aN], oC 4 [aI (nI N), aI (nI (sp_fc N)), aR 19, aR 20, aI 0, aL 0, aI 0, aR 21], iC 4 z0, iC 7 z0, iC 7 z0, oC 4 [aI 0, aI 0, aR 23, aR 24, aI 0, aL 0, aI 0, aN], iC 4 z0, iC 7 z0, iC 7 z0] 0 0
  refine aw_putF K hnm fpi_Dr_29 d_Dr_init_39 rfl rfl (Nat.le_of_ble_eq_true rfl) (fun _ => ⟨rfl, rfl⟩) (w' := [oC 0 [aR 1, aR 9, aN], oC 1 [aI (nI N), aI 1, aI 0, aI 0, aR 2, aR 3, aR 4, aR 5, aR 6, aR 7, aR 8, aL 0], iC 40 z0, iC 40 z0, iC 40 z0, iC 40 z0, iC 160 z0, iC 160 z0, iC 40 z0, oC 2 [aI 0, aR 10, aR 11, aR 12, aR 13, aR 14, aR 15, aR 16], jC room z0L, iC room z0, iC room z0, iC room z0, iC room z0, iC room z0, iC ((2 ^ e)) z0, oC 3 [aR 1, aR 9, aI 0, aI 0, aI 0, aI 0, aI 0, aI 0, aI 0, aR 18, aN], oC 4 [aI (nI N), aI (nI (sp_fc N)), aR 19, aR 20, aI 0, aL 0, aI 0, aR 21], iC 4 z0, iC 7 z0, iC 7 z0, oC 4 [aI 0, aI 0, aR 23, aR 24, aI 0, aL 0, aI 0, aR 25], iC 4 z0, iC 7 z0, iC 7 z0]) rfl ?_
  refine aw_aload_n K d_Dr_init_42 rfl rfl ?_
  refine aw_iload_n K d_Dr_init_43 rfl rfl ?_
  refine aw_putF K hnm fpi_Dr_32 d_Dr_init_44 rfl rfl (Nat.le_of_ble_eq_true rfl) (am_fit_i _) (w' := [oC 0 [aR 1, aR 9, aN], oC 1 [aI (nI N), aI 1, aI 0, aI 0, aR 2, aR 3, aR 4, aR 5, aR 6, aR 7, aR 8, aL 0], iC 40 z0, iC 40 z0, iC 40 z0, iC 40 z0, iC 160 z0, iC 160 z0, iC 40 z0, oC 2 [aI 0, aR 10, aR 11, aR 12, aR 13, aR 14, aR 15, aR 16], jC room z0L, iC room z0, iC room z0, iC room z0, iC room z0, iC room z0, iC ((2 ^ e)) z0, oC 3 [aR 1, aR 9, aI 0, aI 0, aI 0, aI 0, aI 0, aI 0, aI 0, aR 18, aN], oC 4 [aI (nI N), aI (nI (sp_fc N)), aR 19, aR 20, aI 0, aL 0, aI 0, aR 21], iC 4 z0, iC 7 z0, iC 7 z0, oC 4 [aI (nI N), aI 0, aR 23, aR 24, aI 0, aL 0, aI 0, aR 25], iC 4 z0, iC 7 z0, iC 7 z0]) rfl ?_
  refine aw_aload_n K d_Dr_init_47 rfl rfl ?_
  refine aw_iload_n K d_Dr_init_48 rfl rfl ?_
  refine aw_callSN K c_SE_numW cb_Dr_35 ct_SE_numberingsOf (by decide) d_Dr_init_49 rfl (av := [aI (nI N)]) rfl (Nat.le_of_ble_eq_true rfl) (F := fun rv w9 => rv = some (aI (nI (sp_fc N))) ∧ w9 = [oC 0 [aR 1, aR 9, aN], oC 1 [aI (nI N), aI 1, aI 0, aI 0, aR 2, aR 3, aR 4, aR 5, aR 6, aR 7, aR 8, aL 0], iC 40 z0, iC 40 z0, iC 40 z0, iC 40 z0, iC 160 z0, iC 160 z0, iC 40 z0, oC 2 [aI 0, aR 10, aR 11, aR 12, aR 13, aR 14, aR 15, aR 16], jC room z0L, iC room z0, iC room z0, iC room z0, iC room z0, iC room z0, iC ((2 ^ e)) z0, oC 3 [aR 1, aR 9, aI 0, aI 0, aI 0, aI 0, aI 0, aI 0, aI 0, aR 18, aN], oC 4 [aI (nI N), aI (nI (sp_fc N)), aR 19, aR 20, aI 0, aL 0, aI 0, aR 21], iC 4 z0, iC 7 z0, iC 7 z0, oC 4 [aI (nI N), aI 0, aR 23, aR 24, aI 0, aL 0, aI 0, aR 25], iC 4 z0, iC 7 z0, iC 7 z0]) ⟨N, rfl, h1, h4, rfl, rfl⟩ ?_
  intro rv w9 hF
  obtain ⟨rfl, rfl⟩ := hF
  show AW X 52 [some (aR 22), some (aI (nI N))] [aI (nI (sp_fc N)), aR 22] [oC 0 [aR 1, aR 9, aN], oC 1 [aI (nI N), aI 1, aI 0, aI 0, aR 2, aR 3, aR 4, aR 5, aR 6, aR 7, aR 8, aL 0], iC 40 z0, iC 40 z0, iC 40 z0, iC 40 z0, iC 160 z0, iC 160 z0, iC 40 z0, oC 2 [aI 0, aR 10, aR 11, aR 12, aR 13, aR 14, aR 15, aR 16], jC room z0L, iC room z0, iC room z0, iC room z0, iC room z0, iC room z0, iC ((2 ^ e)) z0, oC 3 [aR 1, aR 9, aI 0, aI 0, aI 0, aI 0, aI 0, aI 0, aI 0, aR 18, aN], oC 4 [aI (nI N), aI (nI (sp_fc N)), aR 19, aR 20, aI 0, aL 0, aI 0, aR 21], iC 4 z0, iC 7 z0, iC 7 z0, oC 4 [aI (nI N), aI 0, aR 23, aR 24, aI 0, aL 0, aI 0, aR 25], iC 4 z0, iC 7 z0, iC 7 z0] 0 0
  refine aw_putF K hnm fpi_Dr_39 d_Dr_init_52 rfl rfl (Nat.le_of_ble_eq_true rfl) (am_fit_i _) (w' := [oC 0 [aR 1, aR 9, aN], oC 1 [aI (nI N), aI 1, aI 0, aI 0, aR 2, aR 3, aR 4, aR 5, aR 6, aR 7, aR 8, aL 0], iC 40 z0, iC 40 z0, iC 40 z0, iC 40 z0, iC 160 z0, iC 160 z0, iC 40 z0, oC 2 [aI 0, aR 10, aR 11, aR 12, aR 13, aR 14, aR 15, aR 16], jC room z0L, iC room z0, iC room z0, iC room z0, iC room z0, iC room z0, iC ((2 ^ e)) z0, oC 3 [aR 1, aR 9, aI 0, aI 0, aI 0, aI 0, aI 0, aI 0, aI 0, aR 18, aN], oC 4 [aI (nI N), aI (nI (sp_fc N)), aR 19, aR 20, aI 0, aL 0, aI 0, aR 21], iC 4 z0, iC 7 z0, iC 7 z0, oC 4 [aI (nI N), aI (nI (sp_fc N)), aR 23, aR 24, aI 0, aL 0, aI 0, aR 25], iC 4 z0, iC 7 z0, iC 7 z0]) rfl ?_
  exact aw_vret K hr d_Dr_init_55 hp
def sp_Ex_init : am_S := fun av w post => ∃ (N room e : Nat), av = [aR 17, aR 1, aR 9] ∧ w = [oC 0 [aR 1, aR 9, aN], oC 1 [aI (nI N), aI 1, aI 0, aI 0, aR 2, aR 3, aR 4, aR 5, aR 6, aR 7, aR 8, aL 0], iC 40 z0, iC 40 z0, iC 40 z0, iC 40 z0, iC 160 z0, iC 160 z0, iC 40 z0, oC 2 [aI 0, aR 10, aR 11, aR 12, aR 13, aR 14, aR 15, aR 16], jC room z0L, iC room z0, iC room z0, iC room z0, iC room z0, iC room z0, iC ((2 ^ e)) z0, oC 3 [aN, aN, aI 0, aI 0, aI 0, aI 0, aI 0, aI 0, aI 0, aN, aN]] ∧ 1 ≤ N ∧ N ≤ 4 ∧ post none [oC 0 [aR 1, aR 9, aN], oC 1 [aI (nI N), aI 1, aI 0, aI 0, aR 2, aR 3, aR 4, aR 5, aR 6, aR 7, aR 8, aL 0], iC 40 z0, iC 40 z0, iC 40 z0, iC 40 z0, iC 160 z0, iC 160 z0, iC 40 z0, oC 2 [aI 0, aR 10, aR 11, aR 12, aR 13, aR 14, aR 15, aR 16], jC room z0L, iC room z0, iC room z0, iC room z0, iC room z0, iC room z0, iC ((2 ^ e)) z0, oC 3 [aR 1, aR 9, aI 0, aI 0, aI 0, aI 0, aI 0, aI 0, aI 0, aR 18, aR 22], oC 4 [aI (nI N), aI (nI (sp_fc N)), aR 19, aR 20, aI 0, aL 0, aI 0, aR 21], iC 4 z0, iC 7 z0, iC 7 z0, oC 4 [aI (nI N), aI (nI (sp_fc N)), aR 23, aR 24, aI 0, aL 0, aI 0, aR 25], iC 4 z0, iC 7 z0, iC 7 z0]
set_option maxRecDepth 20000 in
theorem c_Ex_init : Con y_Ex_init b_Ex_init 3 none 3 8 52 true sp_Ex_init := by
  refine Con.of (by decide) (fun av w post h => by obtain ⟨N, room, e, rfl, -⟩ := h; exact Nat.le_of_ble_eq_true rfl) ?_
  intro X K hnm av w post h hr hal
  obtain ⟨N, room, e, rfl, rfl, h1, h4, hp⟩ := h
  replace hal := hal rfl
  refine aw_aload_n K d_Ex_init_0 rfl rfl ?_
  refine aw_objI K oi_Ex oi_2 oi_3 d_Ex_init_1 rfl (by decide) (Nat.le_of_ble_eq_true rfl) ?_
  refine aw_aload_n K d_Ex_init_4 rfl rfl ?_
  refine aw_iconst K d_Ex_init_5 rfl (v := 0) (by decide) ?_
  refine aw_putf K fpi_Ex_9 d_Ex_init_6 rfl rfl (Nat.le_of_ble_eq_true rfl) (am_fit_i _) (w' := [oC 0 [aR 1, aR 9, aN], oC 1 [aI (nI N), aI 1, aI 0, aI 0, aR 2, aR 3, aR 4, aR 5, aR 6, aR 7, aR 8, aL 0], iC 40 z0, iC 40 z0, iC 40 z0, iC 40 z0, iC 160 z0, iC 160 z0, iC 40 z0, oC 2 [aI 0, aR 10, aR 11, aR 12, aR 13, aR 14, aR 15, aR 16], jC room z0L, iC room z0, iC room z0, iC room z0, iC room z0, iC room z0, iC ((2 ^ e)) z0, oC 3 [aN, aN, aI 0, aI 0, aI 0, aI 0, aI 0, aI 0, aI 0, aN, aN]]) rfl ?_
  refine aw_aload_n K d_Ex_init_9 rfl rfl ?_
  refine aw_iconst K d_Ex_init_10 rfl (v := 0) (by decide) ?_
  refine aw_putf K fpi_Ex_15 d_Ex_init_11 rfl rfl (Nat.le_of_ble_eq_true rfl) (am_fit_i _) (w' := [oC 0 [aR 1, aR 9, aN], oC 1 [aI (nI N), aI 1, aI 0, aI 0, aR 2, aR 3, aR 4, aR 5, aR 6, aR 7, aR 8, aL 0], iC 40 z0, iC 40 z0, iC 40 z0, iC 40 z0, iC 160 z0, iC 160 z0, iC 40 z0, oC 2 [aI 0, aR 10, aR 11, aR 12, aR 13, aR 14, aR 15, aR 16], jC room z0L, iC room z0, iC room z0, iC room z0, iC room z0, iC room z0, iC ((2 ^ e)) z0, oC 3 [aN, aN, aI 0, aI 0, aI 0, aI 0, aI 0, aI 0, aI 0, aN, aN]]) rfl ?_
  refine aw_aload_n K d_Ex_init_14 rfl rfl ?_
  refine aw_iconst K d_Ex_init_15 rfl (v := 0) (by decide) ?_
  refine aw_putf K fpi_Ex_18 d_Ex_init_16 rfl rfl (Nat.le_of_ble_eq_true rfl) (am_fit_i _) (w' := [oC 0 [aR 1, aR 9, aN], oC 1 [aI (nI N), aI 1, aI 0, aI 0, aR 2, aR 3, aR 4, aR 5, aR 6, aR 7, aR 8, aL 0], iC 40 z0, iC 40 z0, iC 40 z0, iC 40 z0, iC 160 z0, iC 160 z0, iC 40 z0, oC 2 [aI 0, aR 10, aR 11, aR 12, aR 13, aR 14, aR 15, aR 16], jC room z0L, iC room z0, iC room z0, iC room z0, iC room z0, iC room z0, iC ((2 ^ e)) z0, oC 3 [aN, aN, aI 0, aI 0, aI 0, aI 0, aI 0, aI 0, aI 0, aN, aN]]) rfl ?_
  refine aw_aload_n K d_Ex_init_19 rfl rfl ?_
  refine aw_iconst K d_Ex_init_20 rfl (v := 0) (by decide) ?_
  refine aw_putf K fpi_Ex_21 d_Ex_init_21 rfl rfl (Nat.le_of_ble_eq_true rfl) (am_fit_i _) (w' := [oC 0 [aR 1, aR 9, aN], oC 1 [aI (nI N), aI 1, aI 0, aI 0, aR 2, aR 3, aR 4, aR 5, aR 6, aR 7, aR 8, aL 0], iC 40 z0, iC 40 z0, iC 40 z0, iC 40 z0, iC 160 z0, iC 160 z0, iC 40 z0, oC 2 [aI 0, aR 10, aR 11, aR 12, aR 13, aR 14, aR 15, aR 16], jC room z0L, iC room z0, iC room z0, iC room z0, iC room z0, iC room z0, iC ((2 ^ e)) z0, oC 3 [aN, aN, aI 0, aI 0, aI 0, aI 0, aI 0, aI 0, aI 0, aN, aN]]) rfl ?_
  refine aw_aload_n K d_Ex_init_24 rfl rfl ?_
  refine aw_iconst K d_Ex_init_25 rfl (v := 0) (by decide) ?_
  refine aw_putf K fpi_Ex_24 d_Ex_init_26 rfl rfl (Nat.le_of_ble_eq_true rfl) (am_fit_i _) (w' := [oC 0 [aR 1, aR 9, aN], oC 1 [aI (nI N), aI 1, aI 0, aI 0, aR 2, aR 3, aR 4, aR 5, aR 6, aR 7, aR 8, aL 0], iC 40 z0, iC 40 z0, iC 40 z0, iC 40 z0, iC 160 z0, iC 160 z0, iC 40 z0, oC 2 [aI 0, aR 10, aR 11, aR 12, aR 13, aR 14, aR 15, aR 16], jC room z0L, iC room z0, iC room z0, iC room z0, iC room z0, iC room z0, iC ((2 ^ e)) z0, oC 3 [aN, aN, aI 0, aI 0, aI 0, aI 0, aI 0, aI 0, aI 0, aN, aN]]) rfl ?_
  refine aw_aload_n K d_Ex_init_29 rfl rfl ?_
  refine aw_iconst K d_Ex_init_30 rfl (v := 0) (by decide) ?_
  refine aw_putf K fpi_Ex_27 d_Ex_init_31 rfl rfl (Nat.le_of_ble_eq_true rfl) (am_fit_i _) (w' := [oC 0 [aR 1, aR 9, aN], oC 1 [aI (nI N), aI 1, aI 0, aI 0, aR 2, aR 3, aR 4, aR 5, aR 6, aR 7, aR 8, aL 0], iC 40 z0, iC 40 z0, iC 40 z0, iC 40 z0, iC 160 z0, iC 160 z0, iC 40 z0, oC 2 [aI 0, aR 10, aR 11, aR 12, aR 13, aR 14, aR 15, aR 16], jC room z0L, iC room z0, iC room z0, iC room z0, iC room z0, iC room z0, iC ((2 ^ e)) z0, oC 3 [aN, aN, aI 0, aI 0, aI 0, aI 0, aI 0, aI 0, aI 0, aN, aN]]) rfl ?_
  refine aw_aload_n K d_Ex_init_34 rfl rfl ?_
  refine aw_iconst K d_Ex_init_35 rfl (v := 0) (by decide) ?_
  refine aw_putf K fpi_Ex_30 d_Ex_init_36 rfl rfl (Nat.le_of_ble_eq_true rfl) (am_fit_i _) (w' := [oC 0 [aR 1, aR 9, aN], oC 1 [aI (nI N), aI 1, aI 0, aI 0, aR 2, aR 3, aR 4, aR 5, aR 6, aR 7, aR 8, aL 0], iC 40 z0, iC 40 z0, iC 40 z0, iC 40 z0, iC 160 z0, iC 160 z0, iC 40 z0, oC 2 [aI 0, aR 10, aR 11, aR 12, aR 13, aR 14, aR 15, aR 16], jC room z0L, iC room z0, iC room z0, iC room z0, iC room z0, iC room z0, iC ((2 ^ e)) z0, oC 3 [aN, aN, aI 0, aI 0, aI 0, aI 0, aI 0, aI 0, aI 0, aN, aN]]) rfl ?_
  refine aw_aload_n K d_Ex_init_39 rfl rfl ?_
  refine aw_aload_n K d_Ex_init_40 rfl rfl ?_
  refine aw_putF K hnm fpi_Ex_33 d_Ex_init_41 rfl rfl (Nat.le_of_ble_eq_true rfl) (fun _ => ⟨rfl, rfl⟩) (w' := [oC 0 [aR 1, aR 9, aN], oC 1 [aI (nI N), aI 1, aI 0, aI 0, aR 2, aR 3, aR 4, aR 5, aR 6, aR 7, aR 8, aL 0], iC 40 z0, iC 40 z0, iC 40 z0, iC 40 z0, iC 160 z0, iC 160 z0, iC 40 z0, oC 2 [aI 0, aR 10, aR 11, aR 12, aR 13, aR 14, aR 15, aR 16], jC room z0L, iC room z0, iC room z0, iC room z0, iC room z0, iC room z0, iC ((2 ^ e)) z0, oC 3 [aR 1, aN, aI 0, aI 0, aI 0, aI 0, aI 0, aI 0, aI 0, aN, aN]]) rfl ?_
  refine aw_aload_n K d_Ex_init_44 rfl rfl ?_
  refine aw_aload_n K d_Ex_init_45 rfl rfl ?_
  refine aw_putF K hnm fpi_Ex_37 d_Ex_init_46 rfl rfl (Nat.le_of_ble_eq_true rfl) (fun _ => ⟨rfl, rfl⟩) (w' := [oC 0 [aR 1, aR 9, aN], oC 1 [aI (nI N), aI 1, aI 0, aI 0, aR 2, aR 3, aR 4, aR 5, aR 6, aR 7, aR 8, aL 0], iC 40 z0, iC 40 z0, iC 40 z0, iC 40 z0, iC 160 z0, iC 160 z0, iC 40 z0, oC 2 [aI 0, aR 10, aR 11, aR 12, aR 13, aR 14, aR 15, aR 16], jC room z0L, iC room z0, iC room z0, iC room z0, iC room z0, iC room z0, iC ((2 ^ e)) z0, oC 3 [aR 1, aR 9, aI 0, aI 0, aI 0, aI 0, aI 0, aI 0, aI 0, aN, aN]]) rfl ?_
  refine aw_aload_n K d_Ex_init_49 rfl rfl ?_
  refine aw_new K (hal.mono (Nat.le_of_ble_eq_true rfl)) nw_Ex_41 d_Ex_init_50 rfl (Nat.le_of_ble_eq_true rfl) (Nat.le_of_ble_eq_true rfl) rfl rfl rfl ?_
  show AW X 53 [some (aR 17), some (aR 1), some (aR 9)] [aR 18, aR 17] [oC 0 [aR 1, aR 9, aN], oC 1 [aI (nI N), aI 1, aI 0, aI 0, aR 2, aR 3, aR 4, aR 5, aR 6, aR 7, aR 8, aL 0], iC 40 z0, iC 40 z0, iC 40 z0, iC 40 z0, iC 160 z0, iC 160 z0, iC 40 z0, oC 2 [aI 0, aR 10, aR 11, aR 12, aR 13, aR 14, aR 15, aR 16], jC room z0L, iC room z0, iC room z0, iC room z0, iC room z0, iC room z0, iC ((2 ^ e)) z0, oC 3 [aR 1, aR 9, aI 0, aI 0, aI 0, aI 0, aI 0, aI 0, aI 0, aN, aN], oC 4 [aI 0, aI 0, aN, aN, aI 0, aL 0, aI 0, aN]] 7 44
  refine aw_dup K d_Ex_init_53 rfl (fun _ e => nomatch e) ?_
  refine aw_aload_n K d_Ex_init_54 rfl rfl ?_
  refine aw_getf K fd_Ex_43 d_Ex_init_55 rfl rfl rfl ?_
  refine aw_callI K (hal.mono (Nat.le_of_ble_eq_true rfl)) c_Dr_init_18 cbi_Ex_48 cii_Dr_init rfl (by decide) d_Ex_init_58 rfl (k := 18) (av := [aI (nI N)]) rfl (Nat.le_of_ble_eq_true rfl) (Nat.le_of_ble_eq_true rfl) (Nat.le_of_ble_eq_true rfl) rfl rfl (F := fun rv w9 => rv = none ∧ w9 = [oC 0 [aR 1, aR 9, aN], oC 1 [aI (nI N), aI 1, aI 0, aI 0, aR 2, aR 3, aR 4, aR 5, aR 6, aR 7, aR 8, aL 0], iC 40 z0, iC 40 z0, iC 40 z0, iC 40 z0, iC 160 z0, iC 160 z0, iC 40 z0, oC 2 [aI 0, aR 10, aR 11, aR 12, aR 13, aR 14, aR 15, aR 16], jC room z0L, iC room z0, iC room z0, iC room z0, iC room z0, iC room z0, iC ((2 ^ e)) z0, oC 3 [aR 1, aR 9, aI 0, aI 0, aI 0, aI 0, aI 0, aI 0, aI 0, aN, aN], oC 4 [aI (nI N), aI (nI (sp_fc N)), aR 19, aR 20, aI 0, aL 0, aI 0, aR 21], iC 4 z0, iC 7 z0, iC 7 z0]) ⟨N, room, e, rfl, rfl, h1, h4, rfl, rfl⟩ ?_ (fun _ _ h => h.1)
  intro w9 hF
  obtain ⟨-, rfl⟩ := hF
  show AW X 61 [some (aR 17), some (aR 1), some (aR 9)] [aR 18, aR 17] [oC 0 [aR 1, aR 9, aN], oC 1 [aI (nI N), aI 1, aI 0, aI 0, aR 2, aR 3, aR 4, aR 5, aR 6, aR 7, aR 8, aL 0], iC 40 z0, iC 40 z0, iC 40 z0, iC 40 z0, iC 160 z0, iC 160 z0, iC 40 z0, oC 2 [aI 0, aR 10, aR 11, aR 12, aR 13, aR 14, aR 15, aR 16], jC room z0L, iC room z0, iC room z0, iC room z0, iC room z0, iC room z0, iC ((2 ^ e)) z0, oC 3 [aR 1, aR 9, aI 0, aI 0, aI 0, aI 0, aI 0, aI 0, aI 0, aN, aN], oC 4 [aI (nI N), aI (nI (sp_fc N)), aR 19, aR 20, aI 0, aL 0, aI 0, aR 21], iC 4 z0, iC 7 z0, iC 7 z0] 4 26
  refine aw_putF K hnm fpi_Ex_51 d_Ex_init_61 rfl rfl (Nat.le_of_ble_eq_true rfl) (fun _ => ⟨rfl, rfl⟩) (w' := [oC 0 [aR 1, aR 9, aN], oC 1 [aI (nI N), aI 1, aI 0, aI 0, aR 2, aR 3, aR 4, aR 5, aR 6, aR 7, aR 8, aL 0], iC 40 z0, iC 40 z0, iC 40 z0, iC 40 z0, iC 160 z0, iC 160 z0, iC 40 z0, oC 2 [aI 0, aR 10, aR 11, aR 12, aR 13, aR 14, aR 15, aR 16], jC room z0L, iC room z0, iC room z0, iC room z0, iC room z0, iC room z0, iC ((2 ^ e)) z0, oC 3 [aR 1, aR 9, aI 0, aI 0, aI 0, aI 0, aI 0, aI 0, aI 0, aR 18, aN], oC 4 [aI (nI N), aI (nI (sp_fc N)), aR 19, aR 20, aI 0, aL 0, aI 0, aR 21], iC 4 z0, iC 7 z0, iC 7 z0]) rfl ?_
  refine aw_aload_n K d_Ex_init_64 rfl rfl ?_
  refine aw_new K (hal.mono (Nat.le_of_ble_eq_true rfl)) nw_Ex_41 d_Ex_init_65 rfl (Nat.le_of_ble_eq_true rfl) (Nat.le_of_ble_eq_true rfl) rfl rfl rfl ?_
  show AW X 68 [some (aR 17), some (aR 1), some (aR 9)] [aR 22, aR 17] [oC 0 [aR 1, aR 9, aN], oC 1 [aI (nI N), aI 1, aI 0, aI 0, aR 2, aR 3, aR 4, aR 5, aR 6, aR 7, aR 8, aL 0], iC 40 z0, iC 40 z0, iC 40 z0, iC 40 z0, iC 160 z0, iC 160 z0, iC 40 z0, oC 2 [aI 0, aR 10, aR 11, aR 12, aR 13, aR 14, aR 15, aR 16], jC room z0L, iC room z0, iC room z0, iC room z0, iC room z0, iC room z0, iC ((2 ^ e)) z0, oC 3 [aR 1, aR 9, aI 0, aI 0, aI 0, aI 0, aI 0, aI 0, aI 0, aR 18, aN], oC 4 [aI (nI N), aI (nI (sp_fc N)), aR 19, aR 20, aI 0, aL 0, aI 0, aR 21], iC 4 z0, iC 7 z0, iC 7 z0, oC 4 [aI 0, aI 0, aN, aN, aI 0, aL 0, aI 0, aN]] 3 18
  refine aw_dup K d_Ex_init_68 rfl (fun _ e => nomatch e) ?_
  refine aw_aload_n K d_Ex_init_69 rfl rfl ?_
  refine aw_getf K fd_Ex_43 d_Ex_init_70 rfl rfl rfl ?_
  refine aw_callI K (hal.mono (Nat.le_of_ble_eq_true rfl)) c_Dr_init_22 cbi_Ex_48 cii_Dr_init rfl (by decide) d_Ex_init_73 rfl (k := 22) (av := [aI (nI N)]) rfl (Nat.le_of_ble_eq_true rfl) (Nat.le_of_ble_eq_true rfl) (Nat.le_of_ble_eq_true rfl) rfl rfl (F := fun rv w9 => rv = none ∧ w9 = [oC 0 [aR 1, aR 9, aN], oC 1 [aI (nI N), aI 1, aI 0, aI 0, aR 2, aR 3, aR 4, aR 5, aR 6, aR 7, aR 8, aL 0], iC 40 z0, iC 40 z0, iC 40 z0, iC 40 z0, iC 160 z0, iC 160 z0, iC 40 z0, oC 2 [aI 0, aR 10, aR 11, aR 12, aR 13, aR 14, aR 15, aR 16], jC room z0L, iC room z0, iC room z0, iC room z0, iC room z0, iC room z0, iC ((2 ^ e)) z0, oC 3 [aR 1, aR 9, aI 0, aI 0, aI 0, aI 0, aI 0, aI 0, aI 0, aR 18, aN], oC 4 [aI (nI N), aI (nI (sp_fc N)), aR 19, aR 20, aI 0, aL 0, aI 0, aR 21], iC 4 z0, iC 7 z0, iC 7 z0, oC 4 [aI (nI N), aI (nI (sp_fc N)), aR 23, aR 24, aI 0, aL 0, aI 0, aR 25], iC 4 z0, iC 7 z0, iC 7 z0]) ⟨N, room, e, rfl, rfl, h1, h4, rfl, rfl⟩ ?_ (fun _ _ h => h.1)
  intro w9 hF
  obtain ⟨-, rfl⟩ := hF
  show AW X 76 [some (aR 17), some (aR 1), some (aR 9)] [aR 22, aR 17] [oC 0 [aR 1, aR 9, aN], oC 1 [aI (nI N), aI 1, aI 0, aI 0, aR 2, aR 3, aR 4, aR 5, aR 6, aR 7, aR 8, aL 0], iC 40 z0, iC 40 z0, iC 40 z0, iC 40 z0, iC 160 z0, iC 160 z0, iC 40 z0, oC 2 [aI 0, aR 10, aR 11, aR 12, aR 13, aR 14, aR 15, aR 16], jC room z0L, iC room z0, iC room z0, iC room z0, iC room z0, iC room z0, iC ((2 ^ e)) z0, oC 3 [aR 1, aR 9, aI 0, aI 0, aI 0, aI 0, aI 0, aI 0, aI 0, aR 18, aN], oC 4 [aI (nI N), aI (nI (sp_fc N)), aR 19, aR 20, aI 0, aL 0, aI 0, aR 21], iC 4 z0, iC 7 z0, iC 7 z0, oC 4 [aI (nI N), aI (nI (sp_fc N)), aR 23, aR 24, aI 0, aL 0, aI 0, aR 25], iC 4 z0, iC 7 z0, iC 7 z0] 0 0
  refine aw_putF K hnm fpi_Ex_55 d_Ex_init_76 rfl rfl (Nat.le_of_ble_eq_true rfl) (fun _ => ⟨rfl, rfl⟩) (w' := [oC 0 [aR 1, aR 9, aN], oC 1 [aI (nI N), aI 1, aI 0, aI 0, aR 2, aR 3, aR 4, aR 5, aR 6, aR 7, aR 8, aL 0], iC 40 z0, iC 40 z0, iC 40 z0, iC 40 z0, iC 160 z0, iC 160 z0, iC 40 z0, oC 2 [aI 0, aR 10, aR 11, aR 12, aR 13, aR 14, aR 15, aR 16], jC room z0L, iC room z0, iC room z0, iC room z0, iC room z0, iC room z0, iC ((2 ^ e)) z0, oC 3 [aR 1, aR 9, aI 0, aI 0, aI 0, aI 0, aI 0, aI 0, aI 0, aR 18, aR 22], oC 4 [aI (nI N), aI (nI (sp_fc N)), aR 19, aR 20, aI 0, aL 0, aI 0, aR 21], iC 4 z0, iC 7 z0, iC 7 z0, oC 4 [aI (nI N), aI (nI (sp_fc N)), aR 23, aR 24, aI 0, aL 0, aI 0, aR 25], iC 4 z0, iC 7 z0, iC 7 z0]) rfl ?_
  exact aw_vret K hr d_Ex_init_79 hp
def sp_SE_init : am_S := fun av w post => ∃ (a b : Int32), av = [aR 0, aI a, aI b] ∧ w = [oC 0 [aN, aN, aN]] ∧ ∀ w', ∀ e, rx (R0 (o_md (a - 1) 4 + 1)) (o_md (b - 1) 8192 + 1) e E0 w' → post none w'
set_option maxRecDepth 20000 in
theorem c_SE_init : Con y_SE_init b_SE_init 3 none 4 25 66139 true sp_SE_init := by
  refine Con.of (by decide) (fun av w post h => by obtain ⟨a, b, rfl, -⟩ := h; exact Nat.le_of_ble_eq_true rfl) ?_
  intro X K hnm av w post h hr hal
  obtain ⟨a, b, rfl, rfl, hp⟩ := h
  replace hal := hal rfl
  have h1 : 1 ≤ o_md (a - 1) 4 + 1 := by omega
  have h4 : o_md (a - 1) 4 + 1 ≤ 4 := by have := fm_lt4 (a - 1); omega
  have r1 : 1 ≤ o_md (b - 1) 8192 + 1 := by omega
  have r4 : o_md (b - 1) 8192 + 1 ≤ 8192 := by have := fm_lt8192 (b - 1); omega
  have e_N : (1 : Int32) + nI (o_md (a - 1) 4) = nI (o_md (a - 1) 4 + 1) := nI_s1 _
  have e_room : (1 : Int32) + nI (o_md (b - 1) 8192) = nI (o_md (b - 1) 8192 + 1) := nI_s1 _
  generalize hN9 : o_md (a - 1) 4 + 1 = N at *
  generalize hr9 : o_md (b - 1) 8192 + 1 = room at *
  refine aw_aload_n K d_SE_init_0 rfl rfl ?_
  refine aw_objI K oi_SE oi_2 oi_3 d_SE_init_1 rfl (by decide) (Nat.le_of_ble_eq_true rfl) ?_
  refine aw_aload_n K d_SE_init_4 rfl rfl ?_
  refine aw_new K (hal.mono (Nat.le_of_ble_eq_true rfl)) nw_SE_9 d_SE_init_5 rfl (Nat.le_of_ble_eq_true rfl) (Nat.le_of_ble_eq_true rfl) rfl rfl rfl ?_
  show AW X 8 [some (aR 0), some (aI a), some (aI b)] [aR 1, aR 0] [oC 0 [aN, aN, aN], oC 1 [aI 0, aI 0, aI 0, aI 0, aN, aN, aN, aN, aN, aN, aN, aL 0]] 24 66127
  refine aw_dup K d_SE_init_8 rfl (fun _ e => nomatch e) ?_
  refine aw_iconst K d_SE_init_9 rfl (v := 1) (by decide) ?_
  refine aw_iload_n K d_SE_init_10 rfl rfl ?_
  refine aw_iconst K d_SE_init_11 rfl (v := 1) (by decide) ?_
  refine aw_isub K d_SE_init_12 rfl ?_
  refine aw_iconst K d_SE_init_13 rfl (v := 4) (by decide) ?_
  refine aw_callS K c_Ma_floorMod cbi_SE_11 cti_Ma_floorMod (by decide) d_SE_init_14 rfl (av := [aI (a - 1), aI 4]) rfl (Nat.le_of_ble_eq_true rfl) (F := fun rv w9 => rv = some (aI (nI (o_md (a - 1) 4))) ∧ w9 = [oC 0 [aN, aN, aN], oC 1 [aI 0, aI 0, aI 0, aI 0, aN, aN, aN, aN, aN, aN, aN, aL 0]]) ⟨(a - 1), 4, rfl, .inl ⟨rfl, rfl, rfl⟩⟩ ?_
  intro rv w9 hF
  obtain ⟨rfl, rfl⟩ := hF
  show AW X 17 [some (aR 0), some (aI a), some (aI b)] [aI (nI (o_md (a - 1) 4)), aI 1, aR 1, aR 1, aR 0] [oC 0 [aN, aN, aN], oC 1 [aI 0, aI 0, aI 0, aI 0, aN, aN, aN, aN, aN, aN, aN, aL 0]] 24 66127
  refine aw_iadd K d_SE_init_17 rfl ?_
  rw [e_N]
  show AW X 18 [some (aR 0), some (aI a), some (aI b)] [aI (nI N), aR 1, aR 1, aR 0] [oC 0 [aN, aN, aN], oC 1 [aI 0, aI 0, aI 0, aI 0, aN, aN, aN, aN, aN, aN, aN, aL 0]] 24 66127
  refine aw_callI K (hal.mono (Nat.le_of_ble_eq_true rfl)) c_Mo_init cbi_SE_17 cii_Mo_init rfl (by decide) d_SE_init_18 rfl (k := 1) (av := [aI (nI N)]) rfl (Nat.le_of_ble_eq_true rfl) (Nat.le_of_ble_eq_true rfl) (Nat.le_of_ble_eq_true rfl) rfl rfl (F := fun rv w9 => rv = none ∧ w9 = [oC 0 [aN, aN, aN], oC 1 [aI (nI N), aI 1, aI 0, aI 0, aR 2, aR 3, aR 4, aR 5, aR 6, aR 7, aR 8, aL 0], iC 40 z0, iC 40 z0, iC 40 z0, iC 40 z0, iC 160 z0, iC 160 z0, iC 40 z0]) ⟨nI N, rfl, rfl, rfl, rfl⟩ ?_ (fun _ _ h => h.1)
  intro w9 hF
  obtain ⟨-, rfl⟩ := hF
  show AW X 21 [some (aR 0), some (aI a), some (aI b)] [aR 1, aR 0] [oC 0 [aN, aN, aN], oC 1 [aI (nI N), aI 1, aI 0, aI 0, aR 2, aR 3, aR 4, aR 5, aR 6, aR 7, aR 8, aL 0], iC 40 z0, iC 40 z0, iC 40 z0, iC 40 z0, iC 160 z0, iC 160 z0, iC 40 z0] 17 65607
  refine aw_putF K hnm fpi_SE_20 d_SE_init_21 rfl rfl (Nat.le_of_ble_eq_true rfl) (fun _ => ⟨rfl, rfl⟩) (w' := [oC 0 [aR 1, aN, aN], oC 1 [aI (nI N), aI 1, aI 0, aI 0, aR 2, aR 3, aR 4, aR 5, aR 6, aR 7, aR 8, aL 0], iC 40 z0, iC 40 z0, iC 40 z0, iC 40 z0, iC 160 z0, iC 160 z0, iC 40 z0]) rfl ?_
  refine aw_aload_n K d_SE_init_24 rfl rfl ?_
  refine aw_new K (hal.mono (Nat.le_of_ble_eq_true rfl)) nw_SE_24 d_SE_init_25 rfl (Nat.le_of_ble_eq_true rfl) (Nat.le_of_ble_eq_true rfl) rfl rfl rfl ?_
  show AW X 28 [some (aR 0), some (aI a), some (aI b)] [aR 9, aR 0] [oC 0 [aR 1, aN, aN], oC 1 [aI (nI N), aI 1, aI 0, aI 0, aR 2, aR 3, aR 4, aR 5, aR 6, aR 7, aR 8, aL 0], iC 40 z0, iC 40 z0, iC 40 z0, iC 40 z0, iC 160 z0, iC 160 z0, iC 40 z0, oC 2 [aI 0, aN, aN, aN, aN, aN, aN, aN]] 16 65599
  refine aw_dup K d_SE_init_28 rfl (fun _ e => nomatch e) ?_
  refine aw_iconst K d_SE_init_29 rfl (v := 1) (by decide) ?_
  refine aw_iload_n K d_SE_init_30 rfl rfl ?_
  refine aw_iconst K d_SE_init_31 rfl (v := 1) (by decide) ?_
  refine aw_isub K d_SE_init_32 rfl ?_
  refine aw_sipush K d_SE_init_33 rfl (v := 8192) (by decide) ?_
  refine aw_callS K c_Ma_floorMod cbi_SE_11 cti_Ma_floorMod (by decide) d_SE_init_36 rfl (av := [aI (b - 1), aI 8192]) rfl (Nat.le_of_ble_eq_true rfl) (F := fun rv w9 => rv = some (aI (nI (o_md (b - 1) 8192))) ∧ w9 = [oC 0 [aR 1, aN, aN], oC 1 [aI (nI N), aI 1, aI 0, aI 0, aR 2, aR 3, aR 4, aR 5, aR 6, aR 7, aR 8, aL 0], iC 40 z0, iC 40 z0, iC 40 z0, iC 40 z0, iC 160 z0, iC 160 z0, iC 40 z0, oC 2 [aI 0, aN, aN, aN, aN, aN, aN, aN]]) ⟨(b - 1), 8192, rfl, .inr ⟨rfl, rfl, rfl⟩⟩ ?_
  intro rv w9 hF
  obtain ⟨rfl, rfl⟩ := hF
  show AW X 39 [some (aR 0), some (aI a), some (aI b)] [aI (nI (o_md (b - 1) 8192)), aI 1, aR 9, aR 9, aR 0] [oC 0 [aR 1, aN, aN], oC 1 [aI (nI N), aI 1, aI 0, aI 0, aR 2, aR 3, aR 4, aR 5, aR 6, aR 7, aR 8, aL 0], iC 40 z0, iC 40 z0, iC 40 z0, iC 40 z0, iC 160 z0, iC 160 z0, iC 40 z0, oC 2 [aI 0, aN, aN, aN, aN, aN, aN, aN]] 16 65599
  refine aw_iadd K d_SE_init_39 rfl ?_
  rw [e_room]
  show AW X 40 [some (aR 0), some (aI a), some (aI b)] [aI (nI room), aR 9, aR 9, aR 0] [oC 0 [aR 1, aN, aN], oC 1 [aI (nI N), aI 1, aI 0, aI 0, aR 2, aR 3, aR 4, aR 5, aR 6, aR 7, aR 8, aL 0], iC 40 z0, iC 40 z0, iC 40 z0, iC 40 z0, iC 160 z0, iC 160 z0, iC 40 z0, oC 2 [aI 0, aN, aN, aN, aN, aN, aN, aN]] 16 65599
  refine aw_callI K (hal.mono (Nat.le_of_ble_eq_true rfl)) c_St_init cbi_SE_26 cii_St_init rfl (by decide) d_SE_init_40 rfl (k := 9) (av := [aI (nI room)]) rfl (Nat.le_of_ble_eq_true rfl) (Nat.le_of_ble_eq_true rfl) (Nat.le_of_ble_eq_true rfl) rfl rfl (F := fun rv w9 => rv = none ∧ ∃ e, rc_e room e ∧ w9 = [oC 0 [aR 1, aN, aN], oC 1 [aI (nI N), aI 1, aI 0, aI 0, aR 2, aR 3, aR 4, aR 5, aR 6, aR 7, aR 8, aL 0], iC 40 z0, iC 40 z0, iC 40 z0, iC 40 z0, iC 160 z0, iC 160 z0, iC 40 z0, oC 2 [aI 0, aR 10, aR 11, aR 12, aR 13, aR 14, aR 15, aR 16], jC room z0L, iC room z0, iC room z0, iC room z0, iC room z0, iC room z0, iC ((2 ^ e)) z0]) ⟨nI N, room, rfl, rfl, r1, r4, fun e he => ⟨rfl, e, he, rfl⟩⟩ ?_ (fun _ _ h => h.1)
  intro w9 hF
  obtain ⟨-, e, he, rfl⟩ := hF
  show AW X 43 [some (aR 0), some (aI a), some (aI b)] [aR 9, aR 0] [oC 0 [aR 1, aN, aN], oC 1 [aI (nI N), aI 1, aI 0, aI 0, aR 2, aR 3, aR 4, aR 5, aR 6, aR 7, aR 8, aL 0], iC 40 z0, iC 40 z0, iC 40 z0, iC 40 z0, iC 160 z0, iC 160 z0, iC 40 z0, oC 2 [aI 0, aR 10, aR 11, aR 12, aR 13, aR 14, aR 15, aR 16], jC room z0L, iC room z0, iC room z0, iC room z0, iC room z0, iC room z0, iC ((2 ^ e)) z0] 9 63
  refine aw_putF K hnm fpi_SE_27 d_SE_init_43 rfl rfl (Nat.le_of_ble_eq_true rfl) (fun _ => ⟨rfl, rfl⟩) (w' := [oC 0 [aR 1, aR 9, aN], oC 1 [aI (nI N), aI 1, aI 0, aI 0, aR 2, aR 3, aR 4, aR 5, aR 6, aR 7, aR 8, aL 0], iC 40 z0, iC 40 z0, iC 40 z0, iC 40 z0, iC 160 z0, iC 160 z0, iC 40 z0, oC 2 [aI 0, aR 10, aR 11, aR 12, aR 13, aR 14, aR 15, aR 16], jC room z0L, iC room z0, iC room z0, iC room z0, iC room z0, iC room z0, iC ((2 ^ e)) z0]) rfl ?_
  refine aw_aload_n K d_SE_init_46 rfl rfl ?_
  refine aw_new K (hal.mono (Nat.le_of_ble_eq_true rfl)) nw_SE_31 d_SE_init_47 rfl (Nat.le_of_ble_eq_true rfl) (Nat.le_of_ble_eq_true rfl) rfl rfl rfl ?_
  show AW X 50 [some (aR 0), some (aI a), some (aI b)] [aR 17, aR 0] [oC 0 [aR 1, aR 9, aN], oC 1 [aI (nI N), aI 1, aI 0, aI 0, aR 2, aR 3, aR 4, aR 5, aR 6, aR 7, aR 8, aL 0], iC 40 z0, iC 40 z0, iC 40 z0, iC 40 z0, iC 160 z0, iC 160 z0, iC 40 z0, oC 2 [aI 0, aR 10, aR 11, aR 12, aR 13, aR 14, aR 15, aR 16], jC room z0L, iC room z0, iC room z0, iC room z0, iC room z0, iC room z0, iC ((2 ^ e)) z0, oC 3 [aN, aN, aI 0, aI 0, aI 0, aI 0, aI 0, aI 0, aI 0, aN, aN]] 8 52
  refine aw_dup K d_SE_init_50 rfl (fun _ e => nomatch e) ?_
  refine aw_aload_n K d_SE_init_51 rfl rfl ?_
  refine aw_getf K fd_SE_20 d_SE_init_52 rfl rfl rfl ?_
  refine aw_aload_n K d_SE_init_55 rfl rfl ?_
  refine aw_getf K fd_SE_27 d_SE_init_56 rfl rfl rfl ?_
  refine aw_callI K (hal.mono (Nat.le_of_ble_eq_true rfl)) c_Ex_init cbi_SE_33 cii_Ex_init rfl (by decide) d_SE_init_59 rfl (k := 17) (av := [aR 1, aR 9]) rfl (Nat.le_of_ble_eq_true rfl) (Nat.le_of_ble_eq_true rfl) (Nat.le_of_ble_eq_true rfl) rfl rfl (F := fun rv w9 => rv = none ∧ w9 = [oC 0 [aR 1, aR 9, aN], oC 1 [aI (nI N), aI 1, aI 0, aI 0, aR 2, aR 3, aR 4, aR 5, aR 6, aR 7, aR 8, aL 0], iC 40 z0, iC 40 z0, iC 40 z0, iC 40 z0, iC 160 z0, iC 160 z0, iC 40 z0, oC 2 [aI 0, aR 10, aR 11, aR 12, aR 13, aR 14, aR 15, aR 16], jC room z0L, iC room z0, iC room z0, iC room z0, iC room z0, iC room z0, iC ((2 ^ e)) z0, oC 3 [aR 1, aR 9, aI 0, aI 0, aI 0, aI 0, aI 0, aI 0, aI 0, aR 18, aR 22], oC 4 [aI (nI N), aI (nI (sp_fc N)), aR 19, aR 20, aI 0, aL 0, aI 0, aR 21], iC 4 z0, iC 7 z0, iC 7 z0, oC 4 [aI (nI N), aI (nI (sp_fc N)), aR 23, aR 24, aI 0, aL 0, aI 0, aR 25], iC 4 z0, iC 7 z0, iC 7 z0]) ⟨N, room, e, rfl, rfl, h1, h4, rfl, rfl⟩ ?_ (fun _ _ h => h.1)
  intro w9 hF
  obtain ⟨-, rfl⟩ := hF
  show AW X 62 [some (aR 0), some (aI a), some (aI b)] [aR 17, aR 0] [oC 0 [aR 1, aR 9, aN], oC 1 [aI (nI N), aI 1, aI 0, aI 0, aR 2, aR 3, aR 4, aR 5, aR 6, aR 7, aR 8, aL 0], iC 40 z0, iC 40 z0, iC 40 z0, iC 40 z0, iC 160 z0, iC 160 z0, iC 40 z0, oC 2 [aI 0, aR 10, aR 11, aR 12, aR 13, aR 14, aR 15, aR 16], jC room z0L, iC room z0, iC room z0, iC room z0, iC room z0, iC room z0, iC ((2 ^ e)) z0, oC 3 [aR 1, aR 9, aI 0, aI 0, aI 0, aI 0, aI 0, aI 0, aI 0, aR 18, aR 22], oC 4 [aI (nI N), aI (nI (sp_fc N)), aR 19, aR 20, aI 0, aL 0, aI 0, aR 21], iC 4 z0, iC 7 z0, iC 7 z0, oC 4 [aI (nI N), aI (nI (sp_fc N)), aR 23, aR 24, aI 0, aL 0, aI 0, aR 25], iC 4 z0, iC 7 z0, iC 7 z0] 0 0
  refine aw_putF K hnm fpi_SE_36 d_SE_init_62 rfl rfl (Nat.le_of_ble_eq_true rfl) (fun _ => ⟨rfl, rfl⟩) (w' := [oC 0 [aR 1, aR 9, aR 17], oC 1 [aI (nI N), aI 1, aI 0, aI 0, aR 2, aR 3, aR 4, aR 5, aR 6, aR 7, aR 8, aL 0], iC 40 z0, iC 40 z0, iC 40 z0, iC 40 z0, iC 160 z0, iC 160 z0, iC 40 z0, oC 2 [aI 0, aR 10, aR 11, aR 12, aR 13, aR 14, aR 15, aR 16], jC room z0L, iC room z0, iC room z0, iC room z0, iC room z0, iC room z0, iC ((2 ^ e)) z0, oC 3 [aR 1, aR 9, aI 0, aI 0, aI 0, aI 0, aI 0, aI 0, aI 0, aR 18, aR 22], oC 4 [aI (nI N), aI (nI (sp_fc N)), aR 19, aR 20, aI 0, aL 0, aI 0, aR 21], iC 4 z0, iC 7 z0, iC 7 z0, oC 4 [aI (nI N), aI (nI (sp_fc N)), aR 23, aR 24, aI 0, aL 0, aI 0, aR 25], iC 4 z0, iC 7 z0, iC 7 z0]) rfl ?_
  exact aw_vret K hr d_SE_init_65 (hp _ _ (rx_new h1 h4 he))

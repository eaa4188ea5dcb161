/-! ===== THE LAW's own rows: the script (its address is kept at 1000), and making things beside it ===== -/
def am_alS (X : am_X) (n0 : Nat) : Prop := match X with
  | (p, l, e, R, s, m, args, below, meth, c, Q, D, tc, A, G, mc, ms, nL) => ∀ ad ad' : Nat → Nat, G ad → (∀ k, k < n0 → ad' k = ad k) → ad' 1000 = ad 1000 → G ad'
def am_sc (X : am_X) (b L : Nat) (xs : Nat → Int32) : Prop := match X with
  | (p, l, e, R, s, m, args, below, meth, c, Q, D, tc, A, G, mc, ms, nL) => (∀ ad, G ad → ad 1000 = b) ∧ va_X b L xs s s.heap ∧ b < s.heap.size ∧ ¬ A b
def lv_cl (n : Nat) (lv : List (Option am_V)) : Prop := ∀ ad ad' : Nat → Nat, (∀ k, k < n → ad' k = ad k) → ad' 1000 = ad 1000 → am_l ad' 0 lv = am_l ad 0 lv
theorem am_alS.mono {X : am_X} {n n0 : Nat} (h : am_alS X n0) (hn : n0 ≤ n) : am_alS X n := by
  obtain ⟨p, l, e, R, s, m, args, below, meth, c, Q, D, tc, A, G, mc, ms, nL⟩ := X
  exact fun ad ad' hG hk => h ad ad' hG (fun k hk2 => hk k (Nat.lt_of_lt_of_le hk2 hn))
section ALS
variable {X : am_X} {cc : ByteArray} {own : String} {nl dd pc n bc bs : Nat} {lv : List (Option am_V)} {r : List am_V} {w : List am_C}
theorem aw_sld (K : am_ok X cc own nl dd) {b L : Nat} {xs : Nat → Int32} (hsc : am_sc X b L xs) {i : Int32} (d : decode cc pc = .ok (.iaload, 1)) (hn : pc + 1 = n) (hi : vp_in i L)
    (k9 : AW X n lv (aI (xs i.toNatClampNeg) :: r) w bc bs) : AW X pc lv (aI i :: aR 1000 :: r) w bc bs := by
  obtain ⟨p, l, e, R, s, m, args, below, meth, c, Q, D, tc, A, G, mc, ms, nL⟩ := X
  obtain ⟨hx, hb, ⟨hml, rfl⟩, hown, hts, hK, hmc, hms, hA, hlk, hF, hfr, hlo, htr⟩ := K
  obtain ⟨h1, hX, hbl, hbA⟩ := hsc
  subst hn
  intro ad H locs cells slots ls hG hP hD hS hl hc hs
  have e9 := h1 ad hG
  subst e9
  exact va_sld hx hb hX hbl hbA hS hi d (k9 ad H locs cells slots ls hG hP hD hS hl hc hs)
theorem aw_slen (K : am_ok X cc own nl dd) {b L : Nat} {xs : Nat → Int32} (hsc : am_sc X b L xs) (d : decode cc pc = .ok (.arraylength, 1)) (hn : pc + 1 = n)
    (k9 : AW X n lv (aI (nI L) :: r) w bc bs) : AW X pc lv (aR 1000 :: r) w bc bs := by
  obtain ⟨p, l, e, R, s, m, args, below, meth, c, Q, D, tc, A, G, mc, ms, nL⟩ := X
  obtain ⟨hx, hb, ⟨hml, rfl⟩, hown, hts, hK, hmc, hms, hA, hlk, hF, hfr, hlo, htr⟩ := K
  obtain ⟨h1, hX, hbl, hbA⟩ := hsc
  subst hn
  intro ad H locs cells slots ls hG hP hD hS hl hc hs
  have e9 := h1 ad hG
  subst e9
  exact va_slen hx hb hX hbl hbA hS d (k9 ad H locs cells slots ls hG hP hD hS hl hc hs)
theorem aw_newlS (K : am_ok X cc own nl dd) (hal : am_alS X w.length) {z : Int32} {N' : Nat} (d : decode cc pc = .ok (.newarray .long, 2)) (hn : pc + 2 = n) (hac : Cond.arrayClass .long ∈ am_T) (hz : ¬ z < 0) (hN : z.toNatClampNeg = N') (hby : N' * componentBytes .long ≤ 536870912) (hc1 : 1 ≤ bc) (hc2 : N' ≤ bs) (hfw : w.all (am_fc w.length) = true) (hw9 : w.length < 1000) (hfl : lv_cl w.length lv) (hfr9 : r.all (am_fr w.length) = true)
    (k9 : AW X n lv (aR w.length :: r) (w ++ [jC N' (fun _ => 0)]) (bc - 1) (bs - N')) : AW X pc lv (aI z :: r) w bc bs := by
  obtain ⟨p, l, e, R, s, m, args, below, meth, c, Q, D, tc, A, G, mc, ms, nL⟩ := X
  obtain ⟨hx, hb, ⟨hml, rfl⟩, hown, hts, hK, hmc, hms, hA, hlk, hF, hfr, hlo, htr⟩ := K
  subst hn
  intro ad H locs cells slots ls hG hP hD hS hl hc hs
  refine va_newa (atype := .long) hx hb (hts _ hac) rfl hK hP hD hS hA (a0 := (N', .inr (.inl (fun _ => 0)))) (fun _ => rfl) hz hN hby (by omega) (by omega) d (fun q cA H1 hK1 hP1 hD1 hS1 => ?_)
  have h1 : s.vm.findClass ("[" ++ (.long : FieldType).toString) = some cA := (hK1.2 3 (cA, .long) rfl).2
  have h2 : s.vm.findClass ("[" ++ (.long : FieldType).toString) = some (tc 1) := (hK.2 1 (tc 1, .long) rfl).2
  have hcA : cA = tc 1 := Option.some.inj (h1.symm.trans h2)
  subst hcA
  have hup := am_up_lt ad w.length q
  have hu9 : am_up ad w.length q 1000 = ad 1000 := if_neg (by omega)
  have hw9 : am_w (am_up ad w.length q) tc (w ++ [jC N' (fun _ => 0)]) = am_w ad tc w ++ [(q, .inl (tc 1, (N', .inr (.inl (fun _ => 0)))))] := by
    rw [am_w_app, am_w_fr hup hfw, am_up_at]
    rfl
  have h9 := k9 (am_up ad w.length q) H1 locs (cells + 1) (slots + N') ls (hal ad _ hG hup hu9) (by rw [hw9]; exact hP1) (by rw [hw9]; exact hD1) hS1 (by rw [hfl _ _ hup hu9]; exact hl) (by omega) (by omega)
  rw [List.map_cons, am_r_fr hup hfr9] at h9
  have e9 : am_v (am_up ad w.length q) (aR w.length) = .ref q := by
    show Value.ref (am_up ad w.length q w.length) = .ref q
    rw [am_up_at]
  rw [e9] at h9
  exact h9
theorem aw_newS (K : am_ok X cc own nl dd) (hal : am_alS X w.length) {idx ci N : Nat} {fs : List am_V} (hf : am_nw own idx ci N fs) (d : decode cc pc = .ok (.new idx, 3)) (hn : pc + 3 = n) (hc1 : 1 ≤ bc) (hc2 : N ≤ bs) (hfw : w.all (am_fc w.length) = true) (hw9 : w.length < 1000) (hfl : lv_cl w.length lv) (hfr9 : r.all (am_fr w.length) = true)
    (k9 : AW X n lv (aR w.length :: r) (w ++ [oC ci fs]) (bc - 1) (bs - N)) : AW X pc lv r w bc bs := by
  obtain ⟨p, l, e, R, s, m, args, below, meth, c, Q, D, tc, A, G, mc, ms, nL⟩ := X
  obtain ⟨hx, hb, ⟨hml, rfl⟩, hown, hts, hK, hmc, hms, hA, hlk, hF, hfr, hlo, htr⟩ := K
  subst hn
  intro ad H locs cells slots ls hG hP hD hS hl hc hs
  obtain ⟨C, T, ty, h1, h2, h3, h4, h5, h6, h7, h8⟩ := hf
  refine va_new (C := C) (T := T) (N := N) (ci := ci) hx hb hts h2 ty h3 hown (hts _ h4) (hts _ h5) (hts _ h6) hK hP hD hS hA h1 (fs := fs.map (am_v ad)) (h7 ad) (by omega) (by omega) d (fun q H1 hP1 hD1 hS1 => ?_)
  have hup := am_up_lt ad w.length q
  have hu9 : am_up ad w.length q 1000 = ad 1000 := if_neg (by omega)
  have hfs : fs.map (am_v (am_up ad w.length q)) = fs.map (am_v ad) := am_r_fr (n := 0) (fun k hk => absurd hk (by omega)) h8
  have hw9 : am_w (am_up ad w.length q) tc (w ++ [oC ci fs]) = am_w ad tc w ++ [(q, .inr (ci, fs.map (am_v ad)))] := by
    rw [am_w_app, am_w_fr hup hfw, am_up_at]
    show _ ++ [(q, Sum.inr (ci, fs.map (am_v (am_up ad w.length q))))] = _
    rw [hfs]
  have h9 := k9 (am_up ad w.length q) H1 locs (cells + 1) (slots + N) ls (hal ad _ hG hup hu9) (by rw [hw9]; exact hP1) (by rw [hw9]; exact hD1) hS1 (by rw [hfl _ _ hup hu9]; exact hl) (by omega) (by omega)
  rw [List.map_cons, am_r_fr hup hfr9] at h9
  have e9 : am_v (am_up ad w.length q) (aR w.length) = .ref q := by
    show Value.ref (am_up ad w.length q w.length) = .ref q
    rw [am_up_at]
  rw [e9] at h9
  exact h9
theorem aw_callIFS {wc pre : List am_C} {stk av : List am_V} {y : MethodName} {b : ByteArray} {maxL d idx k mc0 ms0 : Nat} {spec : am_S} (K : am_ok X cc own nl dd) (hal : am_alS X pre.length) (hM : Con y b maxL none d mc0 ms0 true spec) (hB : am_cB own idx y b maxL none av.length) (hI : Cond.instanceMethod y ∈ am_T) (hy1 : y.name = "<init>") (hdd : d + 1 ≤ dd) (hfr : fr_in pre wc [] w) (hcl : pre.all (am_fc pre.length) = true) (dg : decode cc pc = .ok (.invokespecial idx, 3)) (hn : pc + 3 = n) (hstk : stk = (av.map (sh_v pre.length)).reverse ++ aR (pre.length + k) :: r) (hr8 : am_sz r ≤ 8) (hc1 : mc0 ≤ bc) (hc2 : ms0 ≤ bs) (hfl : lv_cl w.length lv) (hfr9 : r.all (am_fr w.length) = true) {F : Option am_V → List am_C → Prop} (h : spec (aR k :: av) wc F)
    (kk : ∀ (wc' : List am_C), F none wc' → ((pre ++ (wc'.map (sh_c pre.length) ++ [])).all (am_fc (pre ++ (wc'.map (sh_c pre.length) ++ [])).length) = true ∧ (pre ++ (wc'.map (sh_c pre.length) ++ [])).length < 1000 ∧ w.length < 1000) ∧ AW X n lv r (pre ++ (wc'.map (sh_c pre.length) ++ [])) (bc - mc0) (bs - ms0)) (hno : ∀ (rv : Option am_V) (w' : List am_C), F rv w' → rv = none) : AW X pc lv stk w bc bs := by
  obtain ⟨p, l, e, R, s, m, args, below, meth, c, Q, D, tc, A, G, mc, ms, nL⟩ := X
  obtain ⟨hx, hb, ⟨hml, rfl⟩, hown, hts, hK, hmc, hms, hA, hlk, hF, hfrR, hlo, htr⟩ := K
  subst hn
  intro ad H locs cells slots ls hG hP hD hS hl hc hs
  subst hstk
  obtain ⟨hPc, hDc⟩ := fr_sub hfr hP hD
  have hFc : ∀ q, va_A (am_w (fun j => ad (pre.length + j)) tc wc) H.size q → A q := by
    intro q h9
    rcases h9 with ⟨k9, e9, h9⟩ | h9
    · exact hDc.2 k9 (q, e9) h9
    · exact hA q (Nat.le_trans hS.1 h9)
  have hpre : ∀ U : State, U.heap = H → s.WarmedH U.vm → am_Pre D tc (fun j => ad (pre.length + j)) wc H.size U := fun U hU hW => ⟨by rw [hU], by rw [hU]; exact hPc, va_K.moved hW.alike hK, hDc.weaken (fun _ _ _ _ => trivial), hF.to hFc hW (fun q h1 h2 => by rw [hU]; exact hS.2.1 q h1 h2)⟩
  have hargs : ((av.map (sh_v pre.length)).reverse ++ aR (pre.length + k) :: r).map (am_v ad) = ((av.map (am_v (fun j => ad (pre.length + j)))).reverse) ++ .ref (ad (pre.length + k)) :: r.map (am_v ad) := by
    rw [List.map_append, List.map_reverse, List.map_map, List.map_cons]
    congr 2
    exact List.map_congr_left (fun v _ => sh_v_am ad pre.length v)
  refine am_goK (va_runI (As := av.map (am_v (fun j => ad (pre.length + j)))) (rest := r.map (am_v ad)) (b := ad (pre.length + k)) ⟨hx, hb, hml, hown, hts⟩ (hM l htr D tc (fun j => ad (pre.length + j)) (aR k :: av) wc F H.size h) ⟨am_callB hts hB hdd hfrR hlo, hy1, hts _ hI⟩ ⟨am_pre_blind, fun U hU hW => ⟨rfl, hpre U hU hW⟩⟩ rfl (by simp) hl.1 hargs (lv_room (by rw [am_sz_eq]; exact hr8)) dg ⟨by omega, by omega⟩) hS hFc (fun rv ad' w' H1 locs1 hG' hF1 hP1 hD1 hk1 hS1 => ?_)
  have e9 := hno rv w' hF1
  subst e9
  have hup : ∀ k, k < wc.length → ad' k = ad (pre.length + k) := hG'
  have hlenw : w.length = pre.length + wc.length := by rw [hfr]; simp
  obtain ⟨hP2, hD2⟩ := fr_grow hfr hup hcl hP hD hFc hP1 hD1 hk1
  obtain ⟨⟨hfw2, hlt2, hltw⟩, kk2⟩ := kk w' hF1
  obtain ⟨a2, ha2⟩ : ∃ a2, a2 = (fun j => if j < pre.length then ad j else ad' (j - pre.length)) := ⟨_, rfl⟩
  rw [← ha2] at hP2 hD2
  have hup2 : ∀ k, k < w.length → a2 k = ad k := by
    intro k hk
    rw [ha2]
    show (if k < pre.length then ad k else ad' (k - pre.length)) = ad k
    by_cases h : k < pre.length
    · rw [if_pos h]
    · rw [if_neg h, hup (k - pre.length) (by omega)]
      congr 1
      omega
  have hlt3 : ∀ k, k < (pre ++ (w'.map (sh_c pre.length) ++ [])).length → am_up a2 1000 (ad 1000) k = a2 k := fun k hk => if_neg (by omega)
  have hup3 : ∀ k, k < w.length → am_up a2 1000 (ad 1000) k = ad k := fun k hk => (show am_up a2 1000 (ad 1000) k = a2 k from if_neg (by omega)).trans (hup2 k hk)
  have hu9 : am_up a2 1000 (ad 1000) 1000 = ad 1000 := am_up_at _ _ _
  have hW3 : am_w (am_up a2 1000 (ad 1000)) tc (pre ++ (w'.map (sh_c pre.length) ++ [])) = am_w a2 tc (pre ++ (w'.map (sh_c pre.length) ++ [])) := am_w_fr hlt3 hfw2
  have h9 := kk2 (am_up a2 1000 (ad 1000)) H1 locs1 (cells + mc0) (slots + ms0) ls (hal ad _ hG (fun k hk => hup3 k (by omega)) hu9) (by rw [hW3]; exact hP2) (by rw [hW3]; exact hD2) hS1 (by rw [hfl _ _ hup3 hu9]; exact hl) (by omega) (by omega)
  rw [am_r_fr hup3 hfr9] at h9
  exact h9
end ALS
/-! cell(script, k) -/
def lw_cl (xs : Nat → Int32) (L : Nat) (k : Int32) : Int32 := if nI L ≤ k then 0 else xs k.toNatClampNeg
theorem m_cell (l : Launch) (htr : l.stackTraces = false) (D : va_G) (tc : Nat → ClassId) (ad : Nat → Nat) (sz L : Nat) (xs : Nat → Int32) (k : Int32) (hk : 0 ≤ k) (hL : L < 2 ^ 31) :
    Met l y_La_cell (am_ws y_La_cell b_La_cell 2 (some .int)) (am_rm 0 0 0) (va_Pc [.ref (ad 1000), .int k] (fun U => am_Pre D tc ad [] sz U ∧ va_X (ad 1000) L xs U U.heap ∧ ad 1000 < sz)) (am_Q D tc (am_G false 0 ad) (va_A (am_w ad tc []) sz) (fun r w => r = some (aI (lw_cl xs L k)) ∧ w = [])) 0 0 (va_A (am_w ad tc []) sz) := by
  refine Met.ofW (cc := b_La_cell) (maxL := 2) (ret := some .int) (by decide) rfl ?_
  intro p e s m args below meth c s₁ B hml hv
  obtain ⟨rfl, ⟨hsz, hP, hK, hD0, hF⟩, hX, hlt⟩ := hv
  subst hsz
  have hD := hD0.self (sz := s.heap.size)
  have K : am_ok (p, l, e, am_rm 0 0 0, s, m, [Value.ref (ad 1000), .int k].toArray, below, meth, c, MQ below (am_Q D tc (am_G false 0 ad) (va_A (am_w ad tc []) s.heap.size) (fun r w => r = some (aI (lw_cl xs L k)) ∧ w = [])) [Value.ref (ad 1000), .int k].toArray s 0 0 (va_A (am_w ad tc []) s.heap.size), D, tc, va_A (am_w ad tc []) s.heap.size, am_G false 0 ad, 0, 0, 2) b_La_cell R_La 2 0 :=
    ⟨B.exec, B.bytes, ⟨hml, rfl⟩, findClass_of_methodNamed B.named, fun x hx => atoms_spec (ws := am_ws y_La_cell b_La_cell 2 (some .int)) B.pre x (List.mem_cons_of_mem _ hx), hK, Nat.le_refl _, Nat.le_refl _, fun q h => Or.inr h, B.notSynchronized, hF, Nat.le_refl _, Nat.le_refl _, htr⟩
  have hsc : am_sc (p, l, e, am_rm 0 0 0, s, m, [Value.ref (ad 1000), .int k].toArray, below, meth, c, MQ below (am_Q D tc (am_G false 0 ad) (va_A (am_w ad tc []) s.heap.size) (fun r w => r = some (aI (lw_cl xs L k)) ∧ w = [])) [Value.ref (ad 1000), .int k].toArray s 0 0 (va_A (am_w ad tc []) s.heap.size), D, tc, va_A (am_w ad tc []) s.heap.size, am_G false 0 ad, 0, 0, 2) (ad 1000) L xs :=
    ⟨fun ad' h => by have h' : ad' = ad := h; rw [h'], hX, hlt, fun z => by
      rcases z with ⟨k9, e9, h9⟩ | h9
      · cases h9
      · omega⟩
  have hr : am_rt (p, l, e, am_rm 0 0 0, s, m, [Value.ref (ad 1000), .int k].toArray, below, meth, c, MQ below (am_Q D tc (am_G false 0 ad) (va_A (am_w ad tc []) s.heap.size) (fun r w => r = some (aI (lw_cl xs L k)) ∧ w = [])) [Value.ref (ad 1000), .int k].toArray s 0 0 (va_A (am_w ad tc []) s.heap.size), D, tc, va_A (am_w ad tc []) s.heap.size, am_G false 0 ad, 0, 0, 2) (some .int) (fun r w => r = some (aI (lw_cl xs L k)) ∧ w = []) := ⟨B.returns, fun t h9 => h9⟩
  rw [lg_entry_eq]
  refine (?_ : AW (p, l, e, am_rm 0 0 0, s, m, [Value.ref (ad 1000), .int k].toArray, below, meth, c, MQ below (am_Q D tc (am_G false 0 ad) (va_A (am_w ad tc []) s.heap.size) (fun r w => r = some (aI (lw_cl xs L k)) ∧ w = [])) [Value.ref (ad 1000), .int k].toArray s 0 0 (va_A (am_w ad tc []) s.heap.size), D, tc, va_A (am_w ad tc []) s.heap.size, am_G false 0 ad, 0, 0, 2) 0 (am_en [aR 1000, aI k] 2) [] [] 0 0) ad s.heap [] 0 0 _ (am_G_rf false 0 ad) hP hD va_S.rf (am_entry ad [aR 1000, aI k] (Nat.le_of_ble_eq_true rfl)) (by omega) (by omega)
  refine aw_iload_n K d_La_cell_0 rfl rfl ?_
  refine aw_aload_n K d_La_cell_1 rfl rfl ?_
  refine aw_slen K hsc d_La_cell_2 rfl ?_
  refine aw_icmp_ge K d_La_cell_3 (t := 12) (by decide) rfl (fun q => ?_) (fun q => ?_)
  · refine aw_iconst K d_La_cell_12 rfl (v := 0) (by decide) ?_
    exact aw_iret K hr d_La_cell_13 ⟨by rw [lw_cl, if_pos q], rfl⟩
  · refine aw_aload_n K d_La_cell_6 rfl rfl ?_
    refine aw_iload_n K d_La_cell_7 rfl rfl ?_
    refine aw_sld K hsc d_La_cell_8 rfl ?_ ?_
    · rintro (z | z)
      · exact absurd z (Int32.not_lt.mpr hk)
      · apply q
        rw [Int32.le_iff_toInt_le, nI_toInt hL]
        have h0 : (0 : Int) ≤ k.toInt := by
          rw [Int32.le_iff_toInt_le] at hk
          exact hk
        have h2 : k.toNatClampNeg = k.toInt.toNat := rfl
        omega
    · refine aw_goto K d_La_cell_9 (n := 13) (by decide) ?_
      exact aw_iret K hr d_La_cell_13 ⟨by rw [lw_cl, if_neg q], rfl⟩
section ALC
variable {X : am_X} {cc : ByteArray} {own : String} {nl dd pc n bc bs : Nat} {lv : List (Option am_V)} {r : List am_V} {w : List am_C}
theorem aw_cell (K : am_ok X cc own nl dd) {b L idx : Nat} {xs : Nat → Int32} {k : Int32} (hsc : am_sc X b L xs) (hB : am_cB own idx y_La_cell b_La_cell 2 (some .int) 2) (hI : Cond.static y_La_cell ∈ am_T) (hdd : 1 ≤ dd) (dg : decode cc pc = .ok (.invokestatic idx, 3)) (hn : pc + 3 = n) (hr8 : am_sz r ≤ 8) (hk : 0 ≤ k) (hL : L < 2 ^ 31)
    (k9 : AW X n lv (aI (lw_cl xs L k) :: r) w bc bs) : AW X pc lv (aI k :: aR 1000 :: r) w bc bs := by
  obtain ⟨p, l, e, R, s, m, args, below, meth, c, Q, D, tc, A, G, mc, ms, nL⟩ := X
  obtain ⟨hx, hb, ⟨hml, rfl⟩, hown, hts, hK, hmc, hms, hA, hlk, hF, hfr, hlo, htr⟩ := K
  obtain ⟨h1, hX, hbl, hbA⟩ := hsc
  subst hn
  intro ad H locs cells slots ls hG hP hD hS hl hc hs
  have e9 := h1 ad hG
  subst e9
  have hFc : ∀ q, va_A (am_w ad tc []) H.size q → A q := by
    intro q h9
    rcases h9 with ⟨k9, e9, h9⟩ | h9
    · cases h9
    · exact hA q (Nat.le_trans hS.1 h9)
  have hpre : ∀ U : State, U.heap = H → s.WarmedH U.vm → am_Pre D tc ad [] H.size U ∧ va_X (ad 1000) L xs U U.heap ∧ ad 1000 < H.size := fun U hU hW => ⟨⟨by rw [hU], fun k q h => (by cases h), va_K.moved hW.alike hK, ⟨fun i j p q h => (by cases h), fun _ _ h => (by cases h)⟩, hF.to hFc hW (fun q h1 h2 => by rw [hU]; exact hS.2.1 q h1 h2)⟩, by rw [hU]; exact (hX.kept (hS.2.1 _ hbl hbA)).moved hW.alike, Nat.lt_of_lt_of_le hbl hS.1⟩
  have hbl9 : FrameBlind (va_Pc [.ref (ad 1000), .int k] (fun U => am_Pre D tc ad [] H.size U ∧ va_X (ad 1000) L xs U U.heap ∧ ad 1000 < H.size)) := by
    intro a U g mk q
    obtain ⟨q0, ⟨q1, qP, qK, qD, qF⟩, qX, ql⟩ := q
    exact ⟨q0, ⟨q1, qP, va_K.moved (u := U) (U := U.calling g mk a) (Vm.Alike.refl U.vm) qK, qD, am_F.blind qF rfl rfl⟩, va_X.moved (u := U) (U := U.calling g mk a) (Vm.Alike.refl U.vm) qX, ql⟩
  refine am_goK (va_runS (As := [.ref (ad 1000), .int k]) (rest := r.map (am_v ad)) ⟨hx, hb, hml, hown, hts⟩ (m_cell l htr D tc ad H.size L xs k hk hL) ⟨am_callB hts hB hdd hfr hlo, hts _ hI⟩ ⟨hbl9, fun U hU hW => ⟨rfl, hpre U hU hW⟩⟩ rfl rfl hl.1 rfl (lv_room (by rw [am_sz_eq]; exact hr8)) dg ⟨by omega, by omega⟩) hS hFc (fun rv ad' w' H1 locs1 hG' hF1 hP1 hD1 hk1 hS1 => ?_)
  have e9 : ad' = ad := hG'
  subst e9
  obtain ⟨rfl, rfl⟩ := hF1
  have hfr9 : fr_in [] [] w w := rfl
  obtain ⟨hP2, hD2⟩ := fr_P (wc' := []) (W' := w) (H1 := H1) hfr9 hfr9 rfl hP hD (fun k q h => by cases h) (fun q h1 h2 => hk1 q h1 (fun z => h2 (by
    rcases z with ⟨k9, e9, h9⟩ | h9
    · cases h9
    · exact Or.inr h9)))
  exact k9 ad' H1 locs1 cells slots ls hG hP2 hD2 hS1 hl (by omega) (by omega)
end ALC

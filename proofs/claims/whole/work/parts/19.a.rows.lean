/-! ===== THE REFERENCE: rows of wholes; add, compare, number, form ===== -/
theorem x4 (a b : Nat) : ((4 : Int32) * nI a) + nI b = nI (4 * a + b) := by
  have h : nI 4 * nI a + nI b = nI (4 * a + b) := by rw [pk_mul, nI_add]
  exact h
theorem x12 (a b : Nat) : ((12 : Int32) * nI a) + nI b = nI (12 * a + b) := by
  have h : nI 12 * nI a + nI b = nI (12 * a + b) := by rw [pk_mul, nI_add]
  exact h
theorem xa4 (a : Nat) : (4 : Int32) + nI a = nI (4 + a) := nI_add 4 a
theorem xa5 (a : Nat) : (5 : Int32) + nI a = nI (5 + a) := nI_add 5 a
theorem xc4 : (4 : Int32).toNatClampNeg = 4 := by decide
theorem xq4 {c : Nat} (h : c < 96) : (nI c / (4 : Int32)) - (nI c / (4 : Int32)) / (4 : Int32) * (4 : Int32) = nI (c / 4 % 4) := by
  have h1 : nI c / nI 4 = nI (c / 4) := pk_div (by omega) (by omega) (by omega)
  have h2 : nI (c / 4) - nI (c / 4) / nI 4 * nI 4 = nI (c / 4 % 4) := pk_rem (by omega) (by omega) (by omega)
  have h3 : nI c / nI 4 - nI c / nI 4 / nI 4 * nI 4 = nI (c / 4 % 4) := by rw [h1]; exact h2
  exact h3
theorem xr4 {c : Nat} (h : c < 96) : nI c - nI c / (4 : Int32) * (4 : Int32) = nI (c % 4) := pk_rem (d := 4) (by omega) (by omega) (by omega)
theorem xd16 {c : Nat} (h : c < 96) : nI c / (16 : Int32) = nI (c / 16) := pk_div (d := 16) (by omega) (by omega) (by omega)
theorem xren (g : Nat → Nat) (c : Nat) : (((16 : Int32) * nI (c / 16)) + ((4 : Int32) * nI (g (c / 4 % 4)))) + nI (g (c % 4)) = nI (sp_ren g c) := by
  have h : nI 16 * nI (c / 16) + nI 4 * nI (g (c / 4 % 4)) + nI (g (c % 4)) = nI (sp_ren g c) := by
    rw [pk_mul, pk_mul, nI_add, nI_add]
    unfold sp_ren
    rw [Nat.mul_comm 16]
  exact h
/-- a row: the states, how many codes, the codes -/
def rw_is (a : Nat → Int32) (o k : Nat) : Prop := (∀ j, j < 4 → a (o + j) = nI (sp_st k j)) ∧ a (o + 4) = nI (sp_n k) ∧ ar_is a (o + 5) (sp_cs k)
def rg (k i : Nat) : Nat := if i < 4 then sp_st k i else if i = 4 then sp_n k else sp_dC (sp_cs k) (i - 5)
def rg_B (i : Nat) : Nat := if i < 5 then 8 else 128
def sp_rk (k : Nat) : Nat := mt_val rg_B (rg k) 12
def kg (k i : Nat) : Nat := if i < 4 then sp_st k i else sp_dC (sp_cs k) (i - 4)
theorem vk_dC {N k : Nat} (h : sp_vk N k) (j : Nat) : sp_dC (sp_cs k) j < 128 := sp_dC_lt (fun c hc => (h.2.1 c hc).1) j
theorem rg_lt {N k : Nat} (h : sp_vk N k) : ∀ i, i < 12 → rg k i < rg_B i := by
  intro i hi
  unfold rg rg_B
  by_cases h1 : i < 4
  · rw [if_pos h1, if_pos (by omega)]; exact sp_st_lt k i
  · rw [if_neg h1]
    by_cases h2 : i = 4
    · rw [if_pos h2, if_pos (by omega)]; have := sp_n_le k; omega
    · rw [if_neg h2, if_neg (by omega)]; exact vk_dC h _
theorem kg_lt {N k : Nat} (h : sp_vk N k) : ∀ i, i < 11 → kg k i < sp_B i := by
  intro i hi
  unfold kg sp_B
  by_cases h1 : i < 4
  · rw [if_pos h1, if_pos h1]; exact sp_st_lt k i
  · rw [if_neg h1, if_neg h1]; exact vk_dC h _
theorem kg_val {N k : Nat} (h : sp_vk N k) : k = mt_val sp_B (kg k) 11 := by
  have e : mt_val sp_B (kg k) 11 = sp_k4 (sp_st k) * 2 ^ 49 + sp_k7 (sp_cs k) 7 := by
    rw [show (11 : Nat) = 4 + 7 from rfl, mt_val_add 4 7]
    have h1 : mt_val sp_B (kg k) 4 = sp_k4 (sp_st k) := by simp [mt_val, sp_B, kg, sp_k4]
    have h2 : (List.range 7).foldl (fun a i => a * sp_B (4 + i)) 1 = 2 ^ 49 := by decide +kernel
    have h3 : (fun i => sp_B (4 + i)) = fun _ => 128 := by
      funext i
      unfold sp_B
      rw [if_neg (by omega)]
    have h4 : (fun i => kg k (4 + i)) = sp_dC (sp_cs k) := by
      funext i
      unfold kg
      rw [if_neg (by omega), Nat.add_sub_cancel_left]
    rw [h1, h2, h3, h4]
    rfl
  rw [e]
  exact h.2.2.2.2.1
theorem kg_rg {k1 k2 : Nat} (m : Nat) (h : ∀ i, i < m → rg k1 i = rg k2 i) : ∀ i, (if i < 4 then i else i + 1) < m → kg k1 i = kg k2 i := by
  intro i hi
  by_cases h1 : i < 4
  · rw [if_pos h1] at hi
    have := h i hi
    unfold rg at this
    rw [if_pos h1, if_pos h1] at this
    unfold kg
    rw [if_pos h1, if_pos h1]
    exact this
  · rw [if_neg h1] at hi
    have := h (i + 1) hi
    unfold rg at this
    rw [if_neg (by omega), if_neg (by omega), if_neg (by omega), if_neg (by omega), show i + 1 - 5 = i - 4 by omega] at this
    unfold kg
    rw [if_neg h1, if_neg h1]
    exact this
theorem rg_all {N k1 k2 : Nat} (h1 : sp_vk N k1) (h2 : sp_vk N k2) (h : ∀ i, i < 12 → rg k1 i = rg k2 i) : k1 = k2 := by
  rw [kg_val h1, kg_val h2]
  exact mt_val_congr (fun i hi => kg_rg 12 h i (by split <;> omega))
theorem rg_tail {k i : Nat} (h : 5 + sp_n k ≤ i) : rg k i = 0 := by
  unfold rg
  rw [if_neg (by omega), if_neg (by omega)]
  exact sp_dC_no (by rw [sp_cs_len]; omega)
/-- with as many codes: the first difference decides which form is less -/
theorem rg_key {N k1 k2 i : Nat} (h1 : sp_vk N k1) (h2 : sp_vk N k2) (hn : sp_n k1 = sp_n k2) (hi : i < 12) (h : ∀ j, j < i → rg k1 j = rg k2 j) (hlt : rg k1 i < rg k2 i) : k1 < k2 := by
  have h4 : i ≠ 4 := by
    intro e
    rw [e] at hlt
    have e1 : ∀ k, rg k 4 = sp_n k := fun k => by unfold rg; rw [if_neg (by omega), if_pos rfl]
    rw [e1, e1] at hlt
    omega
  rw [kg_val h1, kg_val h2]
  refine mt_val_lt (k := if i < 4 then i else i - 1) (fun j hj => kg_rg i h j ?_) ?_ ?_ (kg_lt h1)
  · by_cases q : i < 4
    · rw [if_pos q] at hj; rw [if_pos (by omega)]; exact hj
    · rw [if_neg q] at hj
      by_cases q2 : j < 4
      · rw [if_pos q2]; omega
      · rw [if_neg q2]; omega
  · by_cases q : i < 4
    · rw [if_pos q]
      unfold rg at hlt
      rw [if_pos q, if_pos q] at hlt
      unfold kg
      rw [if_pos q, if_pos q]
      exact hlt
    · rw [if_neg q]
      unfold rg at hlt
      rw [if_neg q, if_neg h4, if_neg q, if_neg h4] at hlt
      unfold kg
      rw [if_neg (by omega), if_neg (by omega), show i - 1 - 4 = i - 5 by omega]
      exact hlt
  · split <;> omega
theorem rg_rk {N k1 k2 i : Nat} (h1 : sp_vk N k1) (hi : i < 12) (h : ∀ j, j < i → rg k1 j = rg k2 j) (hlt : rg k1 i < rg k2 i) : sp_rk k1 < sp_rk k2 := mt_val_lt h hlt hi (rg_lt h1)
theorem rk_inj {N k1 k2 : Nat} (h1 : sp_vk N k1) (h2 : sp_vk N k2) (h : sp_rk k1 = sp_rk k2) : k1 = k2 := rg_all h1 h2 (mt_val_inj (rg_lt h1) (rg_lt h2) h)
/-- what stands at a place of a row -/
def vl (k i : Nat) : Nat := if i < 5 then rg k i else rg k i - 1
theorem vl_at {N k o i : Nat} {a : Nat → Int32} (hv : sp_vk N k) (h : rw_is a o k) (hi : i < 5 + sp_n k) : a (o + i) = nI (vl k i) ∧ vl k i < 128 := by
  obtain ⟨h1, h2, h3⟩ := h
  unfold vl rg
  by_cases q1 : i < 4
  · rw [if_pos (by omega), if_pos q1]
    have := sp_st_lt k i
    exact ⟨h1 i q1, by omega⟩
  · by_cases q2 : i = 4
    · subst q2
      rw [if_pos (by omega), if_neg (by omega), if_pos rfl]
      have := sp_n_le k
      exact ⟨h2, by omega⟩
    · rw [if_neg (by omega), if_neg q1, if_neg q2]
      have hlt : i - 5 < (sp_cs k).length := by rw [sp_cs_len]; omega
      have hg : (sp_cs k)[i - 5]? = some (sp_cs k)[i - 5] := List.getElem?_eq_getElem hlt
      rw [sp_dC_at hg]
      have := h3 _ _ hg
      rw [show o + 5 + (i - 5) = o + i by omega] at this
      have hm := (hv.2.1 _ (List.getElem_mem hlt)).1
      exact ⟨this, by omega⟩
theorem vl_pos {k i : Nat} (h5 : 5 ≤ i) (hi : i < 5 + sp_n k) : 0 < rg k i := by
  unfold rg
  rw [if_neg (by omega), if_neg (by omega)]
  have hlt : i - 5 < (sp_cs k).length := by rw [sp_cs_len]; omega
  rw [sp_dC_at (List.getElem?_eq_getElem hlt)]
  omega
theorem vl_eq {k1 k2 i : Nat} (h1 : i < 5 + sp_n k1) (h2 : i < 5 + sp_n k2) : (vl k1 i = vl k2 i ↔ rg k1 i = rg k2 i) ∧ (vl k1 i < vl k2 i ↔ rg k1 i < rg k2 i) := by
  unfold vl
  by_cases q : i < 5
  · rw [if_pos q, if_pos q]; exact ⟨Iff.rfl, Iff.rfl⟩
  · rw [if_neg q, if_neg q]
    have p1 := vl_pos (by omega) h1
    have p2 := vl_pos (by omega) h2
    constructor <;> omega
theorem rg_n4 (k : Nat) : rg k 4 = sp_n k := by unfold rg; rw [if_neg (by omega), if_pos rfl]
/-! insertion into a row -/
def sp_RM_add_16 : am_S := fun av w post => ∃ (c : Nat) (l : List Nat) (a : Nat → Int32), av = [aR 0, aR 16, aI (nI c)] ∧ w.length = 19 ∧ w[16]? = some (iC 12 a) ∧ (a 4 = nI l.length) ∧ (ar_is a 5 l) ∧ (mt_sd l) ∧ (l.length < 7) ∧ (∀ x ∈ l, x < 96) ∧ (c < 96) ∧ (∀ a' : Nat → Int32, (∀ j, j < 4 → a' j = a j) → a' 4 = nI (l.length + 1) → ar_is a' 5 (mt_ins c l) → post none (w.set 16 (iC 12 a')))
set_option maxRecDepth 20000 in
set_option maxHeartbeats 2000000 in
theorem c_RM_add_16 : Con y_RM_add b_RM_add 5 none 0 0 0 false sp_RM_add_16 := by
  refine Con.of (by decide) (fun av w post h => by obtain ⟨c, l, a, rfl, -⟩ := h; exact Nat.le_of_ble_eq_true rfl) ?_
  intro X K hnm av w post h hr _
  obtain ⟨c, l, a, rfl, hlen, hc16, h4, hl, hsd, h7, h96, hc, hp⟩ := h
  obtain ⟨c0, c1, c2, c3, c4, c5, c6, c7, c8, c9, c10, c11, c12, c13, c14, c15, c16, c17, c18, rfl⟩ := len19 hlen
  obtain rfl : c16 = _ := Option.some.inj hc16
  have key : ∀ (t : Nat) (b : Nat → Int32), t ≤ l.length → (∀ j, j < 5 + t → b j = a j) → (∀ j, t ≤ j → j < l.length → b (5 + j + 1) = a (5 + j)) → (∀ j x, t ≤ j → l[j]? = some x → c < x) → AW X 7 [none, some (aR 16), some (aI (nI c)), some (aI (nI l.length)), some (aI (nI t))] [] [c0, c1, c2, c3, c4, c5, c6, c7, c8, c9, c10, c11, c12, c13, c14, c15, iC 12 b, c17, c18] 0 0 := by
    intro t
    have fin : ∀ (b : Nat → Int32), t ≤ l.length → (∀ j, j < 5 + t → b j = a j) → (∀ j, t ≤ j → j < l.length → b (5 + j + 1) = a (5 + j)) → (∀ j x, t ≤ j → l[j]? = some x → c < x) → (∀ x, 0 < t → l[t - 1]? = some x → x ≤ c) → AW X 40 [none, some (aR 16), some (aI (nI c)), some (aI (nI l.length)), some (aI (nI t))] [] [c0, c1, c2, c3, c4, c5, c6, c7, c8, c9, c10, c11, c12, c13, c14, c15, iC 12 b, c17, c18] 0 0 := by
      intro b h1 h2 h3 h5 h6
      refine x_RM_add_16_40 K hr ⟨by rw [xa5]; exact vp_in_nI (by omega) (by decide), ?_⟩
      rw [xa5, nI_clamp (by omega), xc4, nI_1]
      have hins := ar_ins (a := b) (s := a) (o := 5) (k := t) (x := c) hl hsd h1 (fun j hj => h2 (5 + j) (by omega)) h3 h5 h6
      refine hp _ (fun j hj => ?_) (pk_us ..) (fun j x hj => ?_)
      · rw [pk_un (by omega), pk_un (by omega)]
        exact h2 j (by omega)
      · rw [pk_un (by omega)]
        exact hins j x hj
    induction t with
    | zero =>
      intro b h1 h2 h3 h5
      refine x_RM_add_16_7 K hr ⟨fun _ => ?_, fun z => absurd (Int32.le_refl _) z⟩
      exact fin b h1 h2 h3 h5 (fun x h => absurd h (by omega))
    | succ t ih =>
      intro b h1 h2 h3 h5
      refine x_RM_add_16_7 K hr ⟨fun z => absurd z (nI_nle (by omega) (by omega)), fun _ => ?_⟩
      have hlt : t < l.length := by omega
      have hg : l[t]? = some l[t] := List.getElem?_eq_getElem hlt
      have hm := h96 _ (List.getElem_mem hlt)
      have ea : b (5 + t) = nI l[t] := by rw [h2 (5 + t) (by omega)]; exact hl t _ hg
      rw [xa4, xa5, nI_clamp (by omega), nI_clamp (by omega), show 4 + (t + 1) = 5 + t by omega, ea]
      refine ⟨vp_in_nI (by omega) (by decide), fun z => ?_, fun z => ⟨vp_in_nI (by omega) (by decide), vp_in_nI (by omega) (by decide), ?_⟩⟩
      · have z' : l[t] ≤ c := (nI_leI (by omega) (by omega)).mp z
        exact fin b h1 h2 h3 h5 (fun x _ hx => by
          rw [Nat.add_sub_cancel, hg] at hx
          rw [← Option.some.inj hx]; exact z')
      · have z' : ¬ l[t] ≤ c := fun q => z ((nI_leI (by omega) (by omega)).mpr q)
        rw [pk_m1]
        refine ih ?_ (upd b (5 + (t + 1)) (nI l[t])) (by omega) (fun j hj => ?_) (fun j hj hj2 => ?_) (fun j x hj hx => ?_)
        · intro b h1 h2 h3 h5 h6
          refine x_RM_add_16_40 K hr ⟨by rw [xa5]; exact vp_in_nI (by omega) (by decide), ?_⟩
          rw [xa5, nI_clamp (by omega), xc4, nI_1]
          have hins := ar_ins (a := b) (s := a) (o := 5) (k := t) (x := c) hl hsd h1 (fun j hj => h2 (5 + j) (by omega)) h3 h5 h6
          refine hp _ (fun j hj => ?_) (pk_us ..) (fun j x hj => ?_)
          · rw [pk_un (by omega), pk_un (by omega)]
            exact h2 j (by omega)
          · rw [pk_un (by omega)]
            exact hins j x hj
        · rw [pk_un (by omega)]; exact h2 j (by omega)
        · by_cases e : j = t
          · subst e
            rw [show 5 + j + 1 = 5 + (j + 1) by omega, pk_us]
            exact (hl j _ hg).symm
          · rw [pk_un (by omega)]; exact h3 j (by omega) hj2
        · by_cases e : j = t
          · subst e
            rw [hg] at hx
            rw [← Option.some.inj hx]; omega
          · exact h5 j x (by omega) hx
  refine x_RM_add_16_0 K hr ?_
  rw [xc4, h4]
  refine key l.length a (Nat.le_refl _) (fun _ _ => rfl) (fun j h1 h2 => by omega) (fun j x h1 h2 => ?_)
  have := (List.getElem?_eq_some_iff.mp h2).1
  omega
def sp_RM_add_17 : am_S := fun av w post => ∃ (c : Nat) (l : List Nat) (a : Nat → Int32), av = [aR 0, aR 17, aI (nI c)] ∧ w.length = 19 ∧ w[17]? = some (iC 12 a) ∧ (a 4 = nI l.length) ∧ (ar_is a 5 l) ∧ (mt_sd l) ∧ (l.length < 7) ∧ (∀ x ∈ l, x < 96) ∧ (c < 96) ∧ (∀ a' : Nat → Int32, (∀ j, j < 4 → a' j = a j) → a' 4 = nI (l.length + 1) → ar_is a' 5 (mt_ins c l) → post none (w.set 17 (iC 12 a')))
set_option maxRecDepth 20000 in
set_option maxHeartbeats 2000000 in
theorem c_RM_add_17 : Con y_RM_add b_RM_add 5 none 0 0 0 false sp_RM_add_17 := by
  refine Con.of (by decide) (fun av w post h => by obtain ⟨c, l, a, rfl, -⟩ := h; exact Nat.le_of_ble_eq_true rfl) ?_
  intro X K hnm av w post h hr _
  obtain ⟨c, l, a, rfl, hlen, hc17, h4, hl, hsd, h7, h96, hc, hp⟩ := h
  obtain ⟨c0, c1, c2, c3, c4, c5, c6, c7, c8, c9, c10, c11, c12, c13, c14, c15, c16, c17, c18, rfl⟩ := len19 hlen
  obtain rfl : c17 = _ := Option.some.inj hc17
  have key : ∀ (t : Nat) (b : Nat → Int32), t ≤ l.length → (∀ j, j < 5 + t → b j = a j) → (∀ j, t ≤ j → j < l.length → b (5 + j + 1) = a (5 + j)) → (∀ j x, t ≤ j → l[j]? = some x → c < x) → AW X 7 [none, some (aR 17), some (aI (nI c)), some (aI (nI l.length)), some (aI (nI t))] [] [c0, c1, c2, c3, c4, c5, c6, c7, c8, c9, c10, c11, c12, c13, c14, c15, c16, iC 12 b, c18] 0 0 := by
    intro t
    have fin : ∀ (b : Nat → Int32), t ≤ l.length → (∀ j, j < 5 + t → b j = a j) → (∀ j, t ≤ j → j < l.length → b (5 + j + 1) = a (5 + j)) → (∀ j x, t ≤ j → l[j]? = some x → c < x) → (∀ x, 0 < t → l[t - 1]? = some x → x ≤ c) → AW X 40 [none, some (aR 17), some (aI (nI c)), some (aI (nI l.length)), some (aI (nI t))] [] [c0, c1, c2, c3, c4, c5, c6, c7, c8, c9, c10, c11, c12, c13, c14, c15, c16, iC 12 b, c18] 0 0 := by
      intro b h1 h2 h3 h5 h6
      refine x_RM_add_17_40 K hr ⟨by rw [xa5]; exact vp_in_nI (by omega) (by decide), ?_⟩
      rw [xa5, nI_clamp (by omega), xc4, nI_1]
      have hins := ar_ins (a := b) (s := a) (o := 5) (k := t) (x := c) hl hsd h1 (fun j hj => h2 (5 + j) (by omega)) h3 h5 h6
      refine hp _ (fun j hj => ?_) (pk_us ..) (fun j x hj => ?_)
      · rw [pk_un (by omega), pk_un (by omega)]
        exact h2 j (by omega)
      · rw [pk_un (by omega)]
        exact hins j x hj
    induction t with
    | zero =>
      intro b h1 h2 h3 h5
      refine x_RM_add_17_7 K hr ⟨fun _ => ?_, fun z => absurd (Int32.le_refl _) z⟩
      exact fin b h1 h2 h3 h5 (fun x h => absurd h (by omega))
    | succ t ih =>
      intro b h1 h2 h3 h5
      refine x_RM_add_17_7 K hr ⟨fun z => absurd z (nI_nle (by omega) (by omega)), fun _ => ?_⟩
      have hlt : t < l.length := by omega
      have hg : l[t]? = some l[t] := List.getElem?_eq_getElem hlt
      have hm := h96 _ (List.getElem_mem hlt)
      have ea : b (5 + t) = nI l[t] := by rw [h2 (5 + t) (by omega)]; exact hl t _ hg
      rw [xa4, xa5, nI_clamp (by omega), nI_clamp (by omega), show 4 + (t + 1) = 5 + t by omega, ea]
      refine ⟨vp_in_nI (by omega) (by decide), fun z => ?_, fun z => ⟨vp_in_nI (by omega) (by decide), vp_in_nI (by omega) (by decide), ?_⟩⟩
      · have z' : l[t] ≤ c := (nI_leI (by omega) (by omega)).mp z
        exact fin b h1 h2 h3 h5 (fun x _ hx => by
          rw [Nat.add_sub_cancel, hg] at hx
          rw [← Option.some.inj hx]; exact z')
      · have z' : ¬ l[t] ≤ c := fun q => z ((nI_leI (by omega) (by omega)).mpr q)
        rw [pk_m1]
        refine ih ?_ (upd b (5 + (t + 1)) (nI l[t])) (by omega) (fun j hj => ?_) (fun j hj hj2 => ?_) (fun j x hj hx => ?_)
        · intro b h1 h2 h3 h5 h6
          refine x_RM_add_17_40 K hr ⟨by rw [xa5]; exact vp_in_nI (by omega) (by decide), ?_⟩
          rw [xa5, nI_clamp (by omega), xc4, nI_1]
          have hins := ar_ins (a := b) (s := a) (o := 5) (k := t) (x := c) hl hsd h1 (fun j hj => h2 (5 + j) (by omega)) h3 h5 h6
          refine hp _ (fun j hj => ?_) (pk_us ..) (fun j x hj => ?_)
          · rw [pk_un (by omega), pk_un (by omega)]
            exact h2 j (by omega)
          · rw [pk_un (by omega)]
            exact hins j x hj
        · rw [pk_un (by omega)]; exact h2 j (by omega)
        · by_cases e : j = t
          · subst e
            rw [show 5 + j + 1 = 5 + (j + 1) by omega, pk_us]
            exact (hl j _ hg).symm
          · rw [pk_un (by omega)]; exact h3 j (by omega) hj2
        · by_cases e : j = t
          · subst e
            rw [hg] at hx
            rw [← Option.some.inj hx]; omega
          · exact h5 j x (by omega) hx
  refine x_RM_add_17_0 K hr ?_
  rw [xc4, h4]
  refine key l.length a (Nat.le_refl _) (fun _ _ => rfl) (fun j h1 h2 => by omega) (fun j x h1 h2 => ?_)
  have := (List.getElem?_eq_some_iff.mp h2).1
  omega

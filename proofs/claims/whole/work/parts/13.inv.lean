/-! ===== what always holds of what was told, and of what was explored ===== -/
def rv (R : sp_R) : Prop := (1 ≤ rN R ∧ rN R ≤ 4 ∧ rS R ≤ 8 ∧ rK R ≤ 6 ∧ rU R ≤ 40) ∧ (∀ r, r < rU R → rF R r < rS R ∧ rV R r ≤ rK R ∧ rT R r < rS R ∧ rC R r ≤ 4 ∧ ∀ i, i < rC R r → rW R (4 * r + i) < 2 ∧ rk R (4 * r + i) < rK R ∧ (rV R r = 0 → rW R (4 * r + i) = 1)) ∧ (∀ x y, rB R x y = rB R y x)
def ev (R : sp_R) (room : Nat) (E : sp_E) : Prop :=
  (eZ E ≤ room ∧ eG E ≤ eZ E) ∧ (∀ k, k < eZ E → sp_vk (rN R) (eF E k) ∧ 1 ≤ eY E k ∧ eY E k ≤ 24) ∧ (∀ i j, i < eZ E → j < eZ E → eF E i = eF E j → i = j) ∧
  (∀ k, k < eZ E → (eP E k = 0 ∧ k = 0 ∧ eL E k = 0) ∨ (∃ p, eP E k = p + 1 ∧ p < k ∧ eL E k = eL E p + 1)) ∧ (∀ i j, i ≤ j → j < eZ E → eL E i ≤ eL E j) ∧ (eG E < eZ E → ∀ k, k < eZ E → eL E k ≤ eL E (eG E) + 1) ∧ (eN E < 3 ∧ (eN E = 2 → 0 < eZ E))
theorem ev_lev {R : sp_R} {room : Nat} {E : sp_E} (h : ev R room E) : ∀ n k, k ≤ n → k < eZ E → eL E k ≤ k ∧ eP E k ≤ k := by
  obtain ⟨-, -, -, h4, -⟩ := h
  intro n
  induction n with
  | zero =>
    intro k hk hz
    rcases h4 k hz with ⟨a, b, c⟩ | ⟨p, a, b, c⟩
    · omega
    · omega
  | succ n ih =>
    intro k hk hz
    rcases h4 k hz with ⟨a, b, c⟩ | ⟨p, a, b, c⟩
    · omega
    · have := ih p (by omega) (by omega)
      omega
theorem sp_is_iff {E : sp_E} {k : Nat} : sp_is E k = true ↔ ∃ i, i < eZ E ∧ eF E i = k := by
  unfold sp_is
  rw [List.any_eq_true]
  constructor
  · rintro ⟨i, hi, h⟩
    exact ⟨i, List.mem_range.mp hi, by simpa using h⟩
  · rintro ⟨i, hi, h⟩
    exact ⟨i, List.mem_range.mpr hi, by simpa using h⟩
/-! what a step makes of a whole -/
theorem sp_sn_vc {R : sp_R} {node r s : Nat} (hR : rv R) (hr : r < rU R) (hn : node < rN R) (hs : rV R r ≠ 0 → s < rN R) : ∀ n, n ≤ rC R r → sp_vc (rN R) (sp_sn R node r s n) := by
  obtain ⟨⟨h1, h4, h8, h6, h40⟩, hru, -⟩ := hR
  intro n
  induction n with
  | zero => intro _ c hc; cases hc
  | succ n ih =>
    intro hle c hc
    obtain ⟨g1, g2, g3⟩ := (hru r hr).2.2.2.2 n (by omega)
    unfold sp_sn at hc
    rcases List.mem_append.mp hc with h | h
    · exact ih (by omega) c h
    · unfold sp_s1 at h
      split at h
      · next hw =>
        rw [List.mem_singleton] at h
        have hv : rV R r ≠ 0 := fun e => by have := g3 e; omega
        have := hs hv
        generalize rk R (4 * r + n) = kk at *
        refine ⟨?_, ?_, ?_⟩ <;> omega
      · obtain ⟨t, ht, rfl⟩ := List.mem_map.mp h
        have ht2 := List.mem_range.mp (List.mem_filter.mp ht).1
        generalize rk R (4 * r + n) = kk at *
        refine ⟨?_, ?_, ?_⟩ <;> omega
/-- recv is the place of a code for the node (and one more), or 0 for a rule that goes by itself -/
def sp_rc (R : sp_R) (f node r recv : Nat) : Prop := (recv = 0 ∧ rV R r = 0) ∨ (0 < recv ∧ recv ≤ sp_n f ∧ rV R r ≠ 0)
def sp_ok (R : sp_R) (f node r recv : Nat) : Prop := node < rN R ∧ r < rU R ∧ sp_vk (rN R) f ∧ sp_rc R f node r recv ∧ sp_n f + sp_gw R r (rC R r) ≤ (if recv = 0 then 7 else 8)
theorem sp_getD_mem {l : List Nat} {i : Nat} (h : i < l.length) : l.getD i 0 ∈ l ∧ l[i]? = some (l.getD i 0) := by
  have e : l[i]? = some (l.getD i 0) := by
    rw [List.getElem?_eq_getElem h]
    simp [List.getD, List.getElem?_eq_getElem h]
  exact ⟨List.mem_of_getElem? e, e⟩
theorem sp_snd_lt {R : sp_R} {f node r recv : Nat} (h : sp_ok R f node r recv) : rV R r ≠ 0 → (sp_cs f).getD (recv - 1) 0 / 4 % 4 < rN R := by
  intro hv
  obtain ⟨-, -, hk, hrc, -⟩ := h
  rcases hrc with ⟨-, h0⟩ | ⟨h0, h1, -⟩
  · exact absurd h0 hv
  · have hl := sp_cs_len f
    exact (hk.2.1 _ (sp_getD_mem (l := sp_cs f) (i := recv - 1) (by omega)).1).2.1
theorem sp_base_len {R : sp_R} {f node r recv : Nat} (h : sp_ok R f node r recv) : (if recv = 0 then sp_cs f else (sp_cs f).eraseIdx (recv - 1)).length = sp_n f - (if recv = 0 then 0 else 1) := by
  obtain ⟨-, -, -, hrc, -⟩ := h
  have hl := sp_cs_len f
  split
  · omega
  · next h0 =>
    rcases hrc with ⟨h1, -⟩ | ⟨h1, h2, -⟩
    · exact absurd h1 h0
    · rw [List.length_eraseIdx, if_pos (by omega)]
      omega
theorem sp_nc_len {R : sp_R} {f node r recv : Nat} (hR : rv R) (h : sp_ok R f node r recv) : (sp_nc R f node r recv).length ≤ 7 ∧ (if recv = 0 then sp_cs f else (sp_cs f).eraseIdx (recv - 1)).length + sp_gw R r (rC R r) ≤ 7 := by
  have hb := sp_base_len h
  obtain ⟨hn, hr, hk, hrc, hg⟩ := h
  have e2 : (if recv = 0 then sp_cs f else (sp_cs f).eraseIdx (recv - 1)).length + sp_gw R r (rC R r) ≤ 7 := by
    rw [hb]
    rcases hrc with ⟨h1, -⟩ | ⟨h1, h2, -⟩
    · rw [if_pos h1] at hg ⊢; omega
    · rw [if_neg (by omega)] at hg ⊢; omega
  refine ⟨?_, e2⟩
  unfold sp_nc
  rw [List.length_append, sp_sn_len (by have := hR.1; omega) hn]
  exact e2
theorem sp_nc_vc {R : sp_R} {f node r recv : Nat} (hR : rv R) (h : sp_ok R f node r recv) : sp_vc (rN R) (sp_nc R f node r recv) := by
  have hs := sp_snd_lt h
  obtain ⟨hn, hr, hk, hrc, hg⟩ := h
  intro c hc
  unfold sp_nc at hc
  rcases List.mem_append.mp hc with hm | hm
  · split at hm
    · exact hk.2.1 c hm
    · exact hk.2.1 c (List.mem_of_mem_eraseIdx hm)
  · exact sp_sn_vc hR hr hn hs _ (Nat.le_refl _) c hm
theorem sp_ns_lt {R : sp_R} {f node r : Nat} (hR : rv R) (hr : r < rU R) : ∀ i, sp_ns R f node r i < 8 := by
  intro i
  unfold sp_ns upN
  split
  · have h1 := (hR.2.1 r hr).2.2.1
    have h2 := hR.1.2.2.1
    omega
  · exact sp_st_lt f i
theorem sp_new_vk {R : sp_R} {f node r recv : Nat} (hR : rv R) (h : sp_ok R f node r recv) : sp_vk (rN R) (sp_can (rN R) (sp_ns R f node r) (sp_nc R f node r recv)) :=
  sp_can_vk hR.1.1 hR.1.2.1 (fun i _ => sp_ns_lt hR h.2.1 i) (sp_nc_vc hR h) (sp_nc_len hR h).1
/-- a whole more keeps what holds -/
theorem ev_tk {R : sp_R} {room : Nat} {E : sp_E} {st : Nat → Nat} {cs : List Nat} {par rul : Nat} (hR : rv R) (h : ev R room E) (hz : eZ E < room) (hst : ∀ i, i < rN R → st i < 8) (hc : sp_vc (rN R) cs) (h7 : cs.length ≤ 7)
    (hnew : sp_is E (sp_can (rN R) st cs) = false) (hp : (par = 0 ∧ eZ E = 0) ∨ (par = eG E + 1 ∧ eG E < eZ E)) : ev R room (sp_tk R E st cs par rul) := by
  obtain ⟨⟨a1, a2⟩, b, c, d, f, g, n1, n2⟩ := h
  have hnew' : ∀ i, i < eZ E → eF E i ≠ sp_can (rN R) st cs := fun i hi e => by
    rw [sp_is_iff.mpr ⟨i, hi, e⟩] at hnew
    cases hnew
  have hsy := sp_sym_pos hR.1.1 hR.1.2.1 hst (fun c h => (hc c h).1)
  have zz : eZ (sp_tk R E st cs par rul) = eZ E + 1 := rfl
  refine ⟨⟨by show eZ E + 1 ≤ room; omega, by show eG E ≤ eZ E + 1; omega⟩, fun k hk => ?_, fun i j hi hj e => ?_, fun k hk => ?_, fun i j hij hj => ?_, fun hg k hk => ?_, ?_, ?_⟩
  · show sp_vk (rN R) (upN (eF E) (eZ E) _ k) ∧ 1 ≤ upN (eY E) (eZ E) _ k ∧ upN (eY E) (eZ E) _ k ≤ 24
    by_cases e : k = eZ E
    · rw [e, upN_s, upN_s]
      exact ⟨sp_can_vk hR.1.1 hR.1.2.1 hst hc h7, hsy⟩
    · rw [upN_n _ _ e, upN_n _ _ e]
      exact b k (by rw [zz] at hk; omega)
  · rw [zz] at hi hj
    have e' : upN (eF E) (eZ E) (sp_can (rN R) st cs) i = upN (eF E) (eZ E) (sp_can (rN R) st cs) j := e
    by_cases e1 : i = eZ E
    · by_cases e2 : j = eZ E
      · omega
      · rw [e1, upN_s, upN_n _ _ e2] at e'
        exact absurd e'.symm (hnew' j (by omega))
    · by_cases e2 : j = eZ E
      · rw [e2, upN_s, upN_n _ _ e1] at e'
        exact absurd e' (hnew' i (by omega))
      · rw [upN_n _ _ e1, upN_n _ _ e2] at e'
        exact c i j (by omega) (by omega) e'
  · rw [zz] at hk
    show (upN (eP E) (eZ E) par k = 0 ∧ k = 0 ∧ upN (eL E) (eZ E) _ k = 0) ∨ ∃ p, upN (eP E) (eZ E) par k = p + 1 ∧ p < k ∧ upN (eL E) (eZ E) _ k = upN (eL E) (eZ E) _ p + 1
    by_cases e : k = eZ E
    · rw [e, upN_s, upN_s]
      rcases hp with ⟨p1, p2⟩ | ⟨p1, p2⟩
      · exact Or.inl ⟨p1, p2, if_pos p1⟩
      · refine Or.inr ⟨eG E, p1, p2, ?_⟩
        rw [if_neg (by omega), upN_n _ _ (by omega), p1]
        rfl
    · rw [upN_n _ _ e, upN_n _ _ e]
      rcases d k (by omega) with q | ⟨p, q1, q2, q3⟩
      · exact Or.inl q
      · refine Or.inr ⟨p, q1, q2, ?_⟩
        rw [upN_n _ _ (by omega)]
        exact q3
  · rw [zz] at hj
    show upN (eL E) (eZ E) _ i ≤ upN (eL E) (eZ E) _ j
    by_cases e2 : j = eZ E
    · by_cases e1 : i = eZ E
      · rw [e1, e2]; exact Nat.le_refl _
      · rw [e2, upN_s, upN_n _ _ e1]
        rcases hp with ⟨p1, p2⟩ | ⟨p1, p2⟩
        · omega
        · rw [if_neg (by omega), p1]
          exact g p2 i (by omega)
    · rw [upN_n _ _ e2, upN_n _ _ (by omega)]
      exact f i j hij (by omega)
  · rw [zz] at hk
    have hg' : eG E < eZ E + 1 := hg
    show upN (eL E) (eZ E) _ k ≤ upN (eL E) (eZ E) _ (eG E) + 1
    rcases hp with ⟨p1, p2⟩ | ⟨p1, p2⟩
    · have e1 : k = eZ E := by omega
      have e2 : eG E = eZ E := by omega
      rw [e1, e2]
      omega
    · rw [upN_n (eL E) (k := eZ E) (j := eG E) _ (by omega)]
      by_cases e : k = eZ E
      · rw [e, upN_s, if_neg (by omega), p1]
        exact Nat.le_refl _
      · rw [upN_n _ _ e]
        exact g p2 k (by omega)
  · show (if sp_bw (rN R) (rB R) st = true then 2 else eN E) < 3
    split
    · omega
    · exact n1
  · intro _
    show 0 < eZ E + 1
    omega
theorem ev_mk {R : sp_R} {room f node r recv : Nat} {s : sp_S} (hR : rv R) (h : ev R room s.1) (hg : eG s.1 < eZ s.1) (hok : sp_ok R f node r recv) : ev R room (sp_mk R room f node r recv s).1 ∧ eG (sp_mk R room f node r recv s).1 = eG s.1 ∧ eZ s.1 ≤ eZ (sp_mk R room f node r recv s).1 ∧ (∀ k, k < eZ s.1 → eF (sp_mk R room f node r recv s).1 k = eF s.1 k) := by
  obtain ⟨⟨z, g, t, o, k, n, F, L, P, U, S, Y⟩, he⟩ := s
  unfold sp_mk
  dsimp only
  by_cases h1 : sp_is (z, g, t, o, k, n, F, L, P, U, S, Y) (sp_can (rN R) (sp_ns R f node r) (sp_nc R f node r recv)) = true
  · rw [if_pos h1]
    exact ⟨h, rfl, Nat.le_refl _, fun _ _ => rfl⟩
  · rw [if_neg h1]
    by_cases h2 : z = room
    · rw [if_pos h2]
      obtain ⟨a, b, c, d, e1, f1, n1, n2⟩ := h
      exact ⟨⟨a, b, c, d, e1, f1, by show 1 < 3; omega, fun q => absurd q (by show ¬ 1 = 2; omega)⟩, rfl, Nat.le_refl _, fun _ _ => rfl⟩
    · rw [if_neg h2]
      have hz : z ≤ room := h.1.1
      have h' : ev R room (z, g, t + 1, o, k, n, F, L, P, U, S, Y) := h
      refine ⟨ev_tk hR h' (show z < room by omega) (fun i _ => sp_ns_lt hR hok.2.1 i) (sp_nc_vc hR hok) (sp_nc_len hR hok).1 (by cases h3 : sp_is (z, g, t + 1, o, k, n, F, L, P, U, S, Y) (sp_can (rN R) (sp_ns R f node r) (sp_nc R f node r recv)) with
        | true => exact absurd h3 h1
        | false => rfl) (Or.inr ⟨rfl, hg⟩), rfl, Nat.le_succ _, fun i hi => ?_⟩
      exact upN_n F (k := z) _ (Nat.ne_of_lt hi)

/-! ===== WHOLES AS NUMBERS: the digits of a form; numberings; the form that stands for a whole ===== -/
def sp_B (i : Nat) : Nat := if i < 4 then 8 else 128
/-- the states under a numbering g: place j holds the state of the node that g sends there -/
def sp_dS (st g : Nat → Nat) : Nat → Nat → Nat
  | 0, _ => 0
  | n + 1, j => if j = g n then st n else sp_dS st g n j
def sp_ren (g : Nat → Nat) (c : Nat) : Nat := c / 16 * 16 + 4 * g (c / 4 % 4) + g (c % 4)
/-- the codes' places: one more than the code, 0 where there is none -/
def sp_dC (l : List Nat) (j : Nat) : Nat := match l[j]? with
  | some c => c + 1
  | none => 0
def sp_dg (N : Nat) (st g : Nat → Nat) (cs : List Nat) (i : Nat) : Nat := if i < 4 then sp_dS st g N i else sp_dC (mt_sort (cs.map (sp_ren g))) (i - 4)
def sp_key (N : Nat) (st : Nat → Nat) (cs : List Nat) (g : Nat → Nat) : Nat := mt_val sp_B (sp_dg N st g cs) 11
/-- a numbering by its number: two bits a node -/
def sp_nb (q i : Nat) : Nat := q / 4 ^ i % 4
def sp_seen (q : Nat) : Nat → Nat
  | 0 => 0
  | n + 1 => sp_seen q n ||| (1 <<< sp_nb q n)
def sp_okp (N q : Nat) : Bool := sp_seen q N == 2 ^ N - 1 && q / 4 ^ N == 0
def sp_pl (N : Nat) : List Nat := (List.range 256).filter (sp_okp N)
def sp_M : Nat := 9223372036854775807
def sp_can (N : Nat) (st : Nat → Nat) (cs : List Nat) : Nat := mt_best sp_M ((sp_pl N).map (fun q => sp_key N st cs (sp_nb q)))
def sp_sym (N : Nat) (st : Nat → Nat) (cs : List Nat) : Nat := mt_cnt sp_M ((sp_pl N).map (fun q => sp_key N st cs (sp_nb q)))
/-! what a form tells -/
def sp_st (k i : Nat) : Nat := k / 2 ^ (49 + 3 * (3 - i)) % 8
def sp_co (k j : Nat) : Nat := k / 2 ^ (7 * (6 - j)) % 128
def sp_go (k : Nat) : Nat → Nat → Nat
  | 0, j => j
  | f + 1, j => if sp_co k j = 0 then j else sp_go k f (j + 1)
def sp_n (k : Nat) : Nat := sp_go k 7 0
def sp_cs (k : Nat) : List Nat := (List.range (sp_n k)).map (fun j => sp_co k j - 1)
theorem sp_pl_1 : sp_pl 1 = [0] := by decide +kernel
theorem sp_pl_2 : sp_pl 2 = [1, 4] := by decide +kernel
theorem sp_pl_3 : sp_pl 3 = [6, 9, 18, 24, 33, 36] := by decide +kernel
theorem sp_pl_4 : sp_pl 4 = [27, 30, 39, 45, 54, 57, 75, 78, 99, 108, 114, 120, 135, 141, 147, 156, 177, 180, 198, 201, 210, 216, 225, 228] := by decide +kernel
theorem mt_val_dm {B d : Nat → Nat} {n : Nat} (hd : d n < B n) : mt_val B d (n + 1) / B n = mt_val B d n ∧ mt_val B d (n + 1) % B n = d n := by
  have hB : 0 < B n := by omega
  have e : mt_val B d (n + 1) = B n * mt_val B d n + d n := by
    show mt_val B d n * B n + d n = _
    rw [Nat.mul_comm]
  rw [e, Nat.mul_add_div hB, Nat.mul_add_mod, Nat.div_eq_of_lt hd, Nat.mod_eq_of_lt hd]
  exact ⟨rfl, rfl⟩
theorem sp_div_c {d : Nat → Nat} (hd : ∀ i, i < 11 → d i < sp_B i) : ∀ t, t ≤ 7 → mt_val sp_B d 11 / 2 ^ (7 * t) = mt_val sp_B d (11 - t) := by
  intro t
  induction t with
  | zero => intro _; simp
  | succ t ih =>
    intro h
    have e : 7 * (t + 1) = 7 * t + 7 := by omega
    rw [e, Nat.pow_add, ← Nat.div_div_eq_div_mul, ih (by omega)]
    obtain ⟨u, hu⟩ : ∃ u, 11 - t = u + 1 := ⟨10 - t, by omega⟩
    have hu2 : 11 - (t + 1) = u := by omega
    rw [hu, hu2]
    have hb : sp_B u = 2 ^ 7 := by
      unfold sp_B
      rw [if_neg (by omega)]
    rw [← hb]
    exact (mt_val_dm (hd u (by omega))).1
theorem sp_div_s {d : Nat → Nat} (hd : ∀ i, i < 11 → d i < sp_B i) : ∀ t, t ≤ 4 → mt_val sp_B d 11 / 2 ^ (49 + 3 * t) = mt_val sp_B d (4 - t) := by
  intro t
  induction t with
  | zero => intro _; exact sp_div_c hd 7 (by omega)
  | succ t ih =>
    intro h
    have e : 49 + 3 * (t + 1) = (49 + 3 * t) + 3 := by omega
    rw [e, Nat.pow_add, ← Nat.div_div_eq_div_mul, ih (by omega)]
    obtain ⟨u, hu⟩ : ∃ u, 4 - t = u + 1 := ⟨3 - t, by omega⟩
    have hu2 : 4 - (t + 1) = u := by omega
    rw [hu, hu2]
    have hb : sp_B u = 2 ^ 3 := by
      unfold sp_B
      rw [if_pos (by omega)]
    rw [← hb]
    exact (mt_val_dm (hd u (by omega))).1
theorem sp_co_dg {d : Nat → Nat} (hd : ∀ i, i < 11 → d i < sp_B i) {j : Nat} (hj : j < 7) : sp_co (mt_val sp_B d 11) j = d (4 + j) := by
  unfold sp_co
  rw [sp_div_c hd (6 - j) (by omega)]
  obtain ⟨u, hu⟩ : ∃ u, u = 4 + j := ⟨_, rfl⟩
  have e : 11 - (6 - j) = u + 1 := by omega
  rw [e, ← hu]
  have hb : sp_B u = 128 := by
    unfold sp_B
    rw [if_neg (by omega)]
  rw [← hb]
  exact (mt_val_dm (hd u (by omega))).2
theorem sp_st_dg {d : Nat → Nat} (hd : ∀ i, i < 11 → d i < sp_B i) {i : Nat} (hi : i < 4) : sp_st (mt_val sp_B d 11) i = d i := by
  unfold sp_st
  rw [sp_div_s hd (3 - i) (by omega)]
  have e : 4 - (3 - i) = i + 1 := by omega
  rw [e]
  have hb : sp_B i = 8 := by
    unfold sp_B
    rw [if_pos hi]
  rw [← hb]
  exact (mt_val_dm (hd i (by omega))).2
theorem sp_dC_at {l : List Nat} {j c : Nat} (h : l[j]? = some c) : sp_dC l j = c + 1 := by
  unfold sp_dC
  rw [h]
theorem sp_dC_no {l : List Nat} {j : Nat} (h : l.length ≤ j) : sp_dC l j = 0 := by
  unfold sp_dC
  rw [List.getElem?_eq_none h]
theorem sp_go_eq {k : Nat} {l : List Nat} (hc : ∀ j, j < 7 → sp_co k j = sp_dC l j) (hl : l.length ≤ 7) : ∀ f j, j + f = 7 → j ≤ l.length → sp_go k f j = l.length := by
  intro f
  induction f with
  | zero =>
    intro j h1 h2
    show j = _
    omega
  | succ f ih =>
    intro j h1 h2
    unfold sp_go
    by_cases h : j < l.length
    · rw [hc j (by omega), sp_dC_at (List.getElem?_eq_getElem h), if_neg (by omega)]
      exact ih (j + 1) (by omega) (by omega)
    · rw [hc j (by omega), sp_dC_no (by omega), if_pos rfl]
      omega
theorem sp_cs_eq {k : Nat} {l : List Nat} (hc : ∀ j, j < 7 → sp_co k j = sp_dC l j) (hl : l.length ≤ 7) : sp_n k = l.length ∧ sp_cs k = l := by
  have h1 : sp_n k = l.length := sp_go_eq hc hl 7 0 rfl (Nat.zero_le _)
  refine ⟨h1, ?_⟩
  unfold sp_cs
  rw [h1]
  apply List.ext_getElem?
  intro i
  by_cases h : i < l.length
  · rw [List.getElem?_map, List.getElem?_range h, List.getElem?_eq_getElem h]
    show some (sp_co k i - 1) = _
    rw [hc i (by omega), sp_dC_at (List.getElem?_eq_getElem h)]
    rfl
  · rw [List.getElem?_eq_none (by simpa using h), List.getElem?_eq_none (by omega)]
theorem sp_dS_lt {st g : Nat → Nat} : ∀ {N : Nat}, (∀ i, i < N → st i < 8) → ∀ j, sp_dS st g N j < 8 := by
  intro N
  induction N with
  | zero => intro _ j; exact Nat.succ_pos _
  | succ n ih =>
    intro h j
    unfold sp_dS
    split
    · exact h n (by omega)
    · exact ih (fun i hi => h i (by omega)) j
theorem sp_nb_lt (q i : Nat) : sp_nb q i < 4 := Nat.mod_lt _ (by omega)
theorem sp_ren_lt {g : Nat → Nat} (hg : ∀ i, i < 4 → g i < 4) {c : Nat} (hc : c < 96) : sp_ren g c < 96 := by
  unfold sp_ren
  have h1 := hg (c / 4 % 4) (Nat.mod_lt _ (by omega))
  have h2 := hg (c % 4) (Nat.mod_lt _ (by omega))
  omega
theorem sp_dC_lt {l : List Nat} (h : ∀ c ∈ l, c < 96) (j : Nat) : sp_dC l j < 128 := by
  unfold sp_dC
  cases hj : l[j]? with
  | none => exact Nat.succ_pos _
  | some c =>
    have := h c (List.mem_of_getElem? hj)
    show c + 1 < 128
    omega
theorem sp_dg_lt {N : Nat} {st g : Nat → Nat} {cs : List Nat} (hs : ∀ i, i < N → st i < 8) (hg : ∀ i, i < 4 → g i < 4) (hc : ∀ c ∈ cs, c < 96) : ∀ i, i < 11 → sp_dg N st g cs i < sp_B i := by
  intro i hi
  unfold sp_dg sp_B
  split
  · exact sp_dS_lt hs i
  · refine sp_dC_lt (fun c h => ?_) _
    have h1 := (mt_sort_p (cs.map (sp_ren g))).mem_iff.mp h
    obtain ⟨c0, h2, rfl⟩ := List.mem_map.mp h1
    exact sp_ren_lt hg (hc c0 h2)
theorem sp_key_lt {N : Nat} {st g : Nat → Nat} {cs : List Nat} (hs : ∀ i, i < N → st i < 8) (hg : ∀ i, i < 4 → g i < 4) (hc : ∀ c ∈ cs, c < 96) : sp_key N st cs g < 2 ^ 61 := by
  have h := mt_val_bd (B := sp_B) (m := 11) (sp_dg_lt hs hg hc)
  have e : mt_val sp_B (fun _ => 0) 11 + (List.range 11).foldl (fun a i => a * sp_B i) 1 = 2 ^ 61 := by decide +kernel
  rw [e] at h
  exact h
/-- what the form of a numbering tells: the states at their new places, the codes in order -/
theorem sp_key_parts {N : Nat} {st g : Nat → Nat} {cs : List Nat} (hs : ∀ i, i < N → st i < 8) (hg : ∀ i, i < 4 → g i < 4) (hc : ∀ c ∈ cs, c < 96) (hl : cs.length ≤ 7) :
    (∀ i, i < 4 → sp_st (sp_key N st cs g) i = sp_dS st g N i) ∧ sp_n (sp_key N st cs g) = cs.length ∧ sp_cs (sp_key N st cs g) = mt_sort (cs.map (sp_ren g)) := by
  have hd := sp_dg_lt hs hg hc
  have h1 : ∀ j, j < 7 → sp_co (sp_key N st cs g) j = sp_dC (mt_sort (cs.map (sp_ren g))) j := by
    intro j hj
    unfold sp_key
    rw [sp_co_dg hd hj]
    unfold sp_dg
    rw [if_neg (by omega), Nat.add_sub_cancel_left]
  have hlen : (mt_sort (cs.map (sp_ren g))).length = cs.length := by rw [mt_sort_len, List.length_map]
  have h2 := sp_cs_eq h1 (by omega)
  refine ⟨fun i hi => ?_, h2.1.trans hlen, h2.2⟩
  unfold sp_key
  rw [sp_st_dg hd hi]
  unfold sp_dg
  rw [if_pos hi]

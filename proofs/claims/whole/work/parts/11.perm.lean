/-! ===== the class's numberings are the specification's, in another order; what a form is ===== -/
/-- codes of N nodes -/
def sp_vc (N : Nat) (cs : List Nat) : Prop := ∀ c ∈ cs, c < 96 ∧ c / 4 % 4 < N ∧ c % 4 < N
theorem sp_dS_congr {st g g' : Nat → Nat} : ∀ {N : Nat}, (∀ i, i < N → g i = g' i) → ∀ j, sp_dS st g N j = sp_dS st g' N j := by
  intro N
  induction N with
  | zero => intro _ j; rfl
  | succ n ih =>
    intro h j
    unfold sp_dS
    rw [h n (by omega), ih (fun i hi => h i (by omega)) j]
theorem sp_key_congr {N : Nat} {st g g' : Nat → Nat} {cs : List Nat} (h : ∀ i, i < N → g i = g' i) (hc : sp_vc N cs) : sp_key N st cs g = sp_key N st cs g' := by
  have e1 : cs.map (sp_ren g) = cs.map (sp_ren g') := List.map_congr_left fun c hm => by
    obtain ⟨-, h2, h3⟩ := hc c hm
    unfold sp_ren
    rw [h _ h2, h _ h3]
  unfold sp_key
  refine mt_val_congr fun i _ => ?_
  unfold sp_dg
  rw [e1]
  split
  · exact sp_dS_congr h i
  · rfl
def sp_cv (N q : Nat) : Nat := (if 0 < N then sp_cn q 0 else 0) + (if 1 < N then 4 * sp_cn q 1 else 0) + (if 2 < N then 16 * sp_cn q 2 else 0) + (if 3 < N then 64 * sp_cn q 3 else 0)
theorem sp_cv_nb : ∀ N, N < 5 → ∀ k, k < 24 → ∀ i, i < N → sp_nb (sp_cv N (am_numL.getD k 0)) i = sp_cn (am_numL.getD k 0) i := by decide +kernel
theorem sp_cv_perm1 : ((am_numL.take (sp_fc 1)).map (sp_cv 1)).Perm (sp_pl 1) := by decide +kernel
theorem sp_cv_perm2 : ((am_numL.take (sp_fc 2)).map (sp_cv 2)).Perm (sp_pl 2) := by decide +kernel
theorem sp_cv_perm3 : ((am_numL.take (sp_fc 3)).map (sp_cv 3)).Perm (sp_pl 3) := by decide +kernel
theorem sp_cv_perm4 : ((am_numL.take (sp_fc 4)).map (sp_cv 4)).Perm (sp_pl 4) := by decide +kernel
theorem sp_cv_perm {N : Nat} (h1 : 1 ≤ N) (h4 : N ≤ 4) : ((am_numL.take (sp_fc N)).map (sp_cv N)).Perm (sp_pl N) := by
  rcases (show N = 1 ∨ N = 2 ∨ N = 3 ∨ N = 4 by omega) with rfl | rfl | rfl | rfl
  · exact sp_cv_perm1
  · exact sp_cv_perm2
  · exact sp_cv_perm3
  · exact sp_cv_perm4
theorem sp_ck_perm {N : Nat} {st : Nat → Nat} {cs : List Nat} (h1 : 1 ≤ N) (h4 : N ≤ 4) (hc : sp_vc N cs) : (sp_ck N st cs).Perm ((sp_pl N).map (fun q => sp_key N st cs (sp_nb q))) := by
  have e : sp_ck N st cs = ((am_numL.take (sp_fc N)).map (sp_cv N)).map (fun q => sp_key N st cs (sp_nb q)) := by
    unfold sp_ck
    rw [List.map_map]
    refine List.map_congr_left fun q hq => ?_
    obtain ⟨k, hk⟩ := List.getElem?_of_mem (List.mem_of_mem_take hq)
    have hlt : k < 24 := (List.getElem?_eq_some_iff.mp hk).1
    have eq : q = am_numL.getD k 0 := by simp [List.getD, hk]
    show sp_key N st cs (sp_cn q) = sp_key N st cs (sp_nb (sp_cv N q))
    refine sp_key_congr (fun i hi => ?_) hc
    rw [eq]
    exact (sp_cv_nb N (by omega) k hlt i hi).symm
  rw [e]
  exact (sp_cv_perm h1 h4).map _
theorem sp_ck_best {N : Nat} {st : Nat → Nat} {cs : List Nat} (h1 : 1 ≤ N) (h4 : N ≤ 4) (hc : sp_vc N cs) : mt_best sp_M (sp_ck N st cs) = sp_can N st cs := mt_best_perm (sp_ck_perm h1 h4 hc)
theorem sp_ck_cnt {N : Nat} {st : Nat → Nat} {cs : List Nat} (h1 : 1 ≤ N) (h4 : N ≤ 4) (hc : sp_vc N cs) : mt_cnt sp_M (sp_ck N st cs) = sp_sym N st cs := mt_cnt_perm (sp_ck_perm h1 h4 hc)
theorem sp_pl_at {N : Nat} (h1 : 1 ≤ N) (h4 : N ≤ 4) : sp_pl N ≠ [] ∧ (sp_pl N).length = sp_fc N := by
  rcases (show N = 1 ∨ N = 2 ∨ N = 3 ∨ N = 4 by omega) with rfl | rfl | rfl | rfl
  · rw [sp_pl_1]; exact ⟨by simp, rfl⟩
  · rw [sp_pl_2]; exact ⟨by simp, rfl⟩
  · rw [sp_pl_3]; exact ⟨by simp, rfl⟩
  · rw [sp_pl_4]; exact ⟨by simp, rfl⟩
/-- a numbering of N nodes: it stays among them, each place is taken just once -/
def sp_pm (N : Nat) (g : Nat → Nat) : Prop := (∀ i, i < N → g i < N) ∧ (∀ i, i < N → ∀ j, j < N → g i = g j → i = j) ∧ ∀ j, j < N → ∃ i, i < N ∧ g i = j
theorem sp_pl_ok : ∀ N, N < 5 → ∀ q ∈ (List.range 256).filter (sp_okp N), (∀ i, i < N → sp_nb q i < N) ∧ (∀ i, i < N → ∀ j, j < N → sp_nb q i = sp_nb q j → i = j) ∧ ∀ j, j < N → ∃ i, i < N ∧ sp_nb q i = j := by decide +kernel
theorem sp_pl_pm {N q : Nat} (h4 : N ≤ 4) (h : q ∈ sp_pl N) : sp_pm N (sp_nb q) := sp_pl_ok N (by omega) q h
/-- the form that stands for a whole is one of its forms, the least -/
theorem sp_can_is {N : Nat} {st : Nat → Nat} {cs : List Nat} (h1 : 1 ≤ N) (h4 : N ≤ 4) (hs : ∀ i, i < N → st i < 8) (hc : ∀ c ∈ cs, c < 96) : ∃ q, q ∈ sp_pl N ∧ sp_can N st cs = sp_key N st cs (sp_nb q) := by
  have hlt : ∀ k ∈ (sp_pl N).map (fun q => sp_key N st cs (sp_nb q)), k < sp_M := by
    intro k hk
    obtain ⟨q, -, rfl⟩ := List.mem_map.mp hk
    exact Nat.lt_trans (sp_key_lt hs (fun i _ => sp_nb_lt q i) hc) (by decide)
  rcases mt_best_mem sp_M ((sp_pl N).map (fun q => sp_key N st cs (sp_nb q))) with h | h
  · obtain ⟨q, hq⟩ := List.exists_mem_of_ne_nil _ (sp_pl_at h1 h4).1
    have hm : sp_key N st cs (sp_nb q) ∈ (sp_pl N).map (fun q => sp_key N st cs (sp_nb q)) := List.mem_map.mpr ⟨q, hq, rfl⟩
    have a := (mt_best_le sp_M _).2 _ hm
    have b := hlt _ hm
    omega
  · obtain ⟨q, hq, e⟩ := List.mem_map.mp h
    exact ⟨q, hq, e.symm⟩
theorem sp_sym_pos {N : Nat} {st : Nat → Nat} {cs : List Nat} (h1 : 1 ≤ N) (h4 : N ≤ 4) (hs : ∀ i, i < N → st i < 8) (hc : ∀ c ∈ cs, c < 96) : 1 ≤ sp_sym N st cs ∧ sp_sym N st cs ≤ 24 := by
  obtain ⟨q, hq, e⟩ := sp_can_is h1 h4 hs hc
  constructor
  · show 1 ≤ List.count (sp_can N st cs) _
    rw [e]
    exact List.one_le_count_iff.mpr (List.mem_map.mpr ⟨q, hq, rfl⟩)
  · have := sp_fc_le N
    have h := (sp_pl_at h1 h4).2
    refine Nat.le_trans List.count_le_length ?_
    rw [List.length_map]
    omega
/-- what can be a whole's form -/
def sp_vk (N f : Nat) : Prop := f < 2 ^ 61 ∧ sp_vc N (sp_cs f) ∧ mt_sd (sp_cs f) ∧ (∀ i, N ≤ i → i < 4 → sp_st f i = 0) ∧ f = sp_k4 (sp_st f) * 2 ^ 49 + sp_k7 (sp_cs f) 7 ∧ (sp_cs f).length = sp_n f
theorem sp_cs_len (f : Nat) : (sp_cs f).length = sp_n f := by
  unfold sp_cs
  rw [List.length_map, List.length_range]
theorem sp_ren_parts {g : Nat → Nat} {N c : Nat} (h4 : N ≤ 4) (hg : sp_pm N g) (hc : c < 96 ∧ c / 4 % 4 < N ∧ c % 4 < N) : sp_ren g c / 16 = c / 16 ∧ sp_ren g c / 4 % 4 = g (c / 4 % 4) ∧ sp_ren g c % 4 = g (c % 4) := by
  have h1 := hg.1 _ hc.2.1
  have h2 := hg.1 _ hc.2.2
  unfold sp_ren
  generalize g (c / 4 % 4) = x at *
  generalize g (c % 4) = y at *
  refine ⟨?_, ?_, ?_⟩ <;> omega
theorem sp_can_vk {N : Nat} {st : Nat → Nat} {cs : List Nat} (h1 : 1 ≤ N) (h4 : N ≤ 4) (hs : ∀ i, i < N → st i < 8) (hc : sp_vc N cs) (h7 : cs.length ≤ 7) : sp_vk N (sp_can N st cs) := by
  have hc' : ∀ c ∈ cs, c < 96 := fun c h => (hc c h).1
  obtain ⟨q, hq, e⟩ := sp_can_is h1 h4 hs hc'
  have hpm := sp_pl_pm h4 hq
  rw [e]
  obtain ⟨p1, p2, p3⟩ := sp_key_parts hs (fun i _ => sp_nb_lt q i) hc' h7
  refine ⟨sp_key_lt hs (fun i _ => sp_nb_lt q i) hc', ?_, by rw [p3]; exact mt_sort_sd _, fun i hi hi4 => ?_, ?_, sp_cs_len _⟩
  · rw [p3]
    intro c hm
    obtain ⟨c0, hm0, rfl⟩ := List.mem_map.mp ((mt_sort_p _).mem_iff.mp hm)
    have hc0 := hc c0 hm0
    obtain ⟨-, r2, r3⟩ := sp_ren_parts h4 hpm hc0
    refine ⟨sp_ren_lt (fun i _ => sp_nb_lt q i) hc0.1, ?_, ?_⟩
    · rw [r2]; exact hpm.1 _ hc0.2.1
    · rw [r3]; exact hpm.1 _ hc0.2.2
  · rw [p1 i hi4]
    exact sp_dS_free (fun j hj he => by have := hpm.1 j hj; omega)
  · rw [p3]
    have e4 : sp_k4 (sp_st (sp_key N st cs (sp_nb q))) = sp_k4 (sp_dS st (sp_nb q) N) := by
      unfold sp_k4
      rw [p1 0 (by omega), p1 1 (by omega), p1 2 (by omega), p1 3 (by omega)]
    rw [e4]
    exact sp_key_split N st cs (sp_nb q)
theorem sp_dS_at {st g : Nat → Nat} : ∀ {N i : Nat}, (∀ i, i < N → ∀ j, j < N → g i = g j → i = j) → i < N → sp_dS st g N (g i) = st i := by
  intro N
  induction N with
  | zero => intro i _ h; omega
  | succ n ih =>
    intro i hinj hi
    unfold sp_dS
    by_cases e : i = n
    · subst e; rw [if_pos rfl]
    · rw [if_neg (fun h => e (hinj i hi n (by omega) h))]
      exact ih (fun a ha b hb => hinj a (by omega) b (by omega)) (by omega)
/-- a whole is bad just when the form that stands for it is -/
theorem sp_bw_can {N : Nat} {st : Nat → Nat} {cs : List Nat} {bad : Nat → Nat → Bool} (h1 : 1 ≤ N) (h4 : N ≤ 4) (hs : ∀ i, i < N → st i < 8) (hc : sp_vc N cs) (h7 : cs.length ≤ 7) : sp_bw N bad (sp_st (sp_can N st cs)) = sp_bw N bad st := by
  have hc' : ∀ c ∈ cs, c < 96 := fun c h => (hc c h).1
  obtain ⟨q, hq, e⟩ := sp_can_is h1 h4 hs hc'
  have hpm := sp_pl_pm h4 hq
  rw [e]
  obtain ⟨p1, -, -⟩ := sp_key_parts hs (fun i _ => sp_nb_lt q i) hc' h7
  have key : ∀ i, i < N → sp_st (sp_key N st cs (sp_nb q)) (sp_nb q i) = st i := by
    intro i hi
    rw [p1 _ (by have := hpm.1 i hi; omega)]
    exact sp_dS_at hpm.2.1 hi
  rw [Bool.eq_iff_iff, sp_bw_iff, sp_bw_iff]
  constructor
  · rintro ⟨a, b, ha, hb, hab, h⟩
    obtain ⟨i, hi, rfl⟩ := hpm.2.2 a ha
    obtain ⟨j, hj, rfl⟩ := hpm.2.2 b hb
    rw [key i hi, key j hj] at h
    exact ⟨i, j, hi, hj, fun e => hab (by rw [e]), h⟩
  · rintro ⟨i, j, hi, hj, hij, h⟩
    refine ⟨sp_nb q i, sp_nb q j, hpm.1 i hi, hpm.1 j hj, fun e => hij (hpm.2.1 i hi j hj e), ?_⟩
    rw [key i hi, key j hj]
    exact h

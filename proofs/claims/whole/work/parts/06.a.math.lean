/-! ===== NUMBERS AND LISTS: sorting by insertion, digits, the least of a list and how often ===== -/
def mt_ins (c : Nat) : List Nat → List Nat
  | [] => [c]
  | x :: r => if c < x then c :: x :: r else x :: mt_ins c r
def mt_sort (l : List Nat) : List Nat := l.foldl (fun a c => mt_ins c a) []
theorem mt_ins_comm (a b : Nat) : ∀ l : List Nat, mt_ins a (mt_ins b l) = mt_ins b (mt_ins a l) := by
  intro l
  induction l with
  | nil =>
    simp only [mt_ins]
    rcases Nat.lt_trichotomy a b with h | h | h
    · simp [h, Nat.not_lt.mpr (Nat.le_of_lt h)]
    · subst h; rfl
    · simp [h, Nat.not_lt.mpr (Nat.le_of_lt h)]
  | cons x r ih =>
    by_cases ha : a < x
    · by_cases hb : b < x
      · rcases Nat.lt_trichotomy a b with h | h | h
        · simp [mt_ins, ha, hb, h, Nat.not_lt.mpr (Nat.le_of_lt h)]
        · subst h; rfl
        · simp [mt_ins, ha, hb, h, Nat.not_lt.mpr (Nat.le_of_lt h)]
      · have h2 : ¬ b < a := by omega
        simp [mt_ins, ha, hb, h2]
    · by_cases hb : b < x
      · have h2 : ¬ a < b := by omega
        simp [mt_ins, ha, hb, h2]
      · simp [mt_ins, ha, hb, ih]
theorem mt_fold_perm {l1 l2 : List Nat} (p : l1.Perm l2) : ∀ acc : List Nat, l1.foldl (fun a c => mt_ins c a) acc = l2.foldl (fun a c => mt_ins c a) acc := by
  induction p with
  | nil => intro acc; rfl
  | cons x _ ih => intro acc; exact ih _
  | swap x y l => intro acc; simp only [List.foldl_cons]; rw [mt_ins_comm]
  | trans _ _ ih1 ih2 => intro acc; exact (ih1 acc).trans (ih2 acc)
theorem mt_sort_perm {l1 l2 : List Nat} (p : l1.Perm l2) : mt_sort l1 = mt_sort l2 := mt_fold_perm p []
theorem mt_sort_app (l : List Nat) (c : Nat) : mt_sort (l ++ [c]) = mt_ins c (mt_sort l) := by
  simp [mt_sort, List.foldl_append]
theorem mt_ins_perm (c : Nat) : ∀ l : List Nat, (mt_ins c l).Perm (c :: l) := by
  intro l
  induction l with
  | nil => exact List.Perm.refl _
  | cons x r ih =>
    unfold mt_ins
    split
    · exact List.Perm.refl _
    · exact (List.Perm.cons x ih).trans (List.Perm.swap c x r)
theorem mt_ins_len (c : Nat) (l : List Nat) : (mt_ins c l).length = l.length + 1 := (mt_ins_perm c l).length_eq
theorem mt_fold_p (l : List Nat) : ∀ acc : List Nat, (l.foldl (fun a c => mt_ins c a) acc).Perm (l ++ acc) := by
  induction l with
  | nil => intro acc; exact List.Perm.refl _
  | cons x r ih =>
    intro acc
    refine (ih (mt_ins x acc)).trans ?_
    refine ((mt_ins_perm x acc).append_left r).trans ?_
    exact List.perm_middle
theorem mt_sort_p (l : List Nat) : (mt_sort l).Perm l := by
  have h := mt_fold_p l []
  rw [List.append_nil] at h
  exact h
theorem mt_sort_len (l : List Nat) : (mt_sort l).length = l.length := (mt_sort_p l).length_eq
def mt_sd : List Nat → Prop
  | [] => True
  | x :: r => (∀ y ∈ r, x ≤ y) ∧ mt_sd r
theorem mt_ins_sd (c : Nat) : ∀ l : List Nat, mt_sd l → mt_sd (mt_ins c l) := by
  intro l
  induction l with
  | nil => intro _; exact ⟨(fun y hy => by cases hy), trivial⟩
  | cons x r ih =>
    intro h
    unfold mt_ins
    split
    · next hc =>
      refine ⟨fun y hy => ?_, h⟩
      rcases List.mem_cons.mp hy with rfl | hy
      · omega
      · have := h.1 y hy
        omega
    · next hc =>
      refine ⟨fun y hy => ?_, ih h.2⟩
      rcases List.mem_cons.mp ((mt_ins_perm c r).mem_iff.mp hy) with rfl | hy
      · omega
      · exact h.1 y hy
theorem mt_fold_sd (l : List Nat) : ∀ acc : List Nat, mt_sd acc → mt_sd (l.foldl (fun a c => mt_ins c a) acc) := by
  induction l with
  | nil => intro acc h; exact h
  | cons x r ih => intro acc h; exact ih _ (mt_ins_sd x acc h)
theorem mt_sort_sd (l : List Nat) : mt_sd (mt_sort l) := mt_fold_sd l [] trivial
theorem mt_sd_eq : ∀ {l1 l2 : List Nat}, mt_sd l1 → mt_sd l2 → l1.Perm l2 → l1 = l2 := by
  intro l1
  induction l1 with
  | nil => intro l2 _ _ p; exact (List.nil_perm.mp p).symm
  | cons x r ih =>
    intro l2 h1 h2 p
    cases l2 with
    | nil => exact absurd p.length_eq (by simp)
    | cons y q =>
      have hx : x ∈ y :: q := p.mem_iff.mp List.mem_cons_self
      have hy : y ∈ x :: r := p.mem_iff.mpr List.mem_cons_self
      have e : x = y := by
        rcases List.mem_cons.mp hx with h | h
        · exact h
        · rcases List.mem_cons.mp hy with g | g
          · exact g.symm
          · have a := h2.1 x h
            have b := h1.1 y g
            omega
      subst e
      rw [ih h1.2 h2.2 ((List.perm_cons x).mp p)]
theorem mt_sort_of_sd {l : List Nat} (h : mt_sd l) : mt_sort l = l := mt_sd_eq (mt_sort_sd l) h (mt_sort_p l)
/-! digits -/
def mt_val (B d : Nat → Nat) : Nat → Nat
  | 0 => 0
  | n + 1 => mt_val B d n * B n + d n
theorem mt_val_congr {B d e : Nat → Nat} : ∀ {m : Nat}, (∀ i, i < m → d i = e i) → mt_val B d m = mt_val B e m := by
  intro m
  induction m with
  | zero => intro _; rfl
  | succ m ih =>
    intro h
    unfold mt_val
    rw [ih (fun i hi => h i (by omega)), h m (by omega)]
theorem mt_val_lt {B d e : Nat → Nat} {k : Nat} (h : ∀ i, i < k → d i = e i) (hk : d k < e k) : ∀ {m : Nat}, k < m → (∀ i, i < m → d i < B i) → mt_val B d m < mt_val B e m := by
  intro m
  induction m with
  | zero => intro h0; omega
  | succ m ih =>
    intro hkm hd
    unfold mt_val
    by_cases e0 : k = m
    · subst e0
      rw [mt_val_congr h]
      omega
    · have h1 := ih (by omega) (fun i hi => hd i (by omega))
      have h2 : (mt_val B d m + 1) * B m ≤ mt_val B e m * B m := Nat.mul_le_mul_right _ h1
      rw [Nat.add_mul, Nat.one_mul] at h2
      have h3 := hd m (by omega)
      omega
theorem mt_first {d e : Nat → Nat} {m : Nat} (h : ¬ ∀ i, i < m → d i = e i) : ∃ k, k < m ∧ (∀ i, i < k → d i = e i) ∧ d k ≠ e k := by
  induction m with
  | zero => exact absurd (fun i hi => absurd hi (by omega)) h
  | succ m ih =>
    by_cases h1 : ∀ i, i < m → d i = e i
    · refine ⟨m, by omega, h1, fun h2 => h fun i hi => ?_⟩
      by_cases h3 : i = m
      · subst h3; exact h2
      · exact h1 i (by omega)
    · obtain ⟨k, hk, h2, h3⟩ := ih h1
      exact ⟨k, by omega, h2, h3⟩
theorem mt_val_inj {B d e : Nat → Nat} {m : Nat} (hd : ∀ i, i < m → d i < B i) (he : ∀ i, i < m → e i < B i) (h : mt_val B d m = mt_val B e m) : ∀ i, i < m → d i = e i := by
  by_cases h1 : ∀ i, i < m → d i = e i
  · exact h1
  · obtain ⟨k, hk, h2, h3⟩ := mt_first h1
    rcases Nat.lt_or_gt_of_ne h3 with h4 | h4
    · have := mt_val_lt (B := B) h2 h4 hk hd
      omega
    · have := mt_val_lt (B := B) (fun i hi => (h2 i hi).symm) h4 hk he
      omega
theorem mt_val_bd {B d : Nat → Nat} : ∀ {m : Nat}, (∀ i, i < m → d i < B i) → mt_val B d m < mt_val B (fun _ => 0) m + (List.range m).foldl (fun a i => a * B i) 1 := by
  intro m
  induction m with
  | zero => intro _; exact Nat.lt_of_lt_of_le (Nat.lt_succ_self 0) (Nat.le_refl _)
  | succ m ih =>
    intro hd
    have h1 := ih (fun i hi => hd i (by omega))
    have h0 : ∀ n, mt_val B (fun _ => 0) n = 0 := by
      intro n
      induction n with
      | zero => rfl
      | succ n ih => unfold mt_val; rw [ih]; simp
    rw [h0] at h1 ⊢
    rw [List.range_succ, List.foldl_append]
    unfold mt_val
    simp only [List.foldl_cons, List.foldl_nil]
    have h2 : (mt_val B d m + 1) * B m ≤ (0 + (List.range m).foldl (fun a i => a * B i) 1) * B m := Nat.mul_le_mul_right _ h1
    rw [Nat.add_mul, Nat.one_mul, Nat.zero_add] at h2
    have h3 := hd m (by omega)
    omega
theorem mt_val_add {B d : Nat → Nat} (n : Nat) : ∀ m : Nat, mt_val B d (n + m) = mt_val B d n * (List.range m).foldl (fun a i => a * B (n + i)) 1 + mt_val (fun i => B (n + i)) (fun i => d (n + i)) m := by
  intro m
  induction m with
  | zero => simp [mt_val]
  | succ m ih =>
    rw [← Nat.add_assoc, List.range_succ, List.foldl_append]
    simp only [List.foldl_cons, List.foldl_nil, mt_val]
    rw [ih, Nat.add_mul, Nat.mul_assoc, Nat.add_assoc]
/-! the least of a list, from a start, and how often it stands there -/
def mt_best (M : Nat) (l : List Nat) : Nat := l.foldl (fun a x => if x < a then x else a) M
theorem mt_best_app (M : Nat) (l : List Nat) (x : Nat) : mt_best M (l ++ [x]) = if x < mt_best M l then x else mt_best M l := by
  unfold mt_best
  rw [List.foldl_append]
  rfl
theorem mt_best_le (M : Nat) : ∀ l : List Nat, mt_best M l ≤ M ∧ ∀ x ∈ l, mt_best M l ≤ x := by
  intro l
  induction l generalizing M with
  | nil => exact ⟨Nat.le_refl _, fun x h => by cases h⟩
  | cons y r ih =>
    have e : mt_best M (y :: r) = mt_best (if y < M then y else M) r := rfl
    rw [e]
    by_cases hy : y < M
    · rw [if_pos hy]
      have h := ih y
      refine ⟨by omega, fun x hx => ?_⟩
      rcases List.mem_cons.mp hx with rfl | hx
      · exact h.1
      · exact h.2 x hx
    · rw [if_neg hy]
      have h := ih M
      refine ⟨h.1, fun x hx => ?_⟩
      rcases List.mem_cons.mp hx with rfl | hx
      · omega
      · exact h.2 x hx
theorem mt_best_mem (M : Nat) : ∀ l : List Nat, mt_best M l = M ∨ mt_best M l ∈ l := by
  intro l
  induction l generalizing M with
  | nil => exact Or.inl rfl
  | cons y r ih =>
    have e : mt_best M (y :: r) = mt_best (if y < M then y else M) r := rfl
    rw [e]
    rcases ih (if y < M then y else M) with h | h
    · rw [h]
      split
      · exact Or.inr List.mem_cons_self
      · exact Or.inl rfl
    · exact Or.inr (List.mem_cons_of_mem _ h)
theorem mt_best_perm {M : Nat} {l1 l2 : List Nat} (p : l1.Perm l2) : mt_best M l1 = mt_best M l2 := by
  have key : ∀ {a b : List Nat}, a.Perm b → mt_best M a ≤ mt_best M b := by
    intro a b p
    rcases mt_best_mem M b with h | h
    · rw [h]; exact (mt_best_le M a).1
    · exact (mt_best_le M a).2 _ (p.mem_iff.mpr h)
  exact Nat.le_antisymm (key p) (key p.symm)
def mt_cnt (M : Nat) (l : List Nat) : Nat := l.count (mt_best M l)
theorem mt_cnt_perm {M : Nat} {l1 l2 : List Nat} (p : l1.Perm l2) : mt_cnt M l1 = mt_cnt M l2 := by
  unfold mt_cnt
  rw [mt_best_perm p]
  exact p.count_eq _
theorem mt_cnt_app_lt {M : Nat} {l : List Nat} {x : Nat} (h : x < mt_best M l) : mt_cnt M (l ++ [x]) = 1 := by
  unfold mt_cnt
  rw [mt_best_app, if_pos h, List.count_append]
  have h0 : l.count x = 0 := List.count_eq_zero.mpr fun hm => by
    have := (mt_best_le M l).2 x hm
    omega
  rw [h0]
  simp
theorem mt_cnt_app_eq {M : Nat} {l : List Nat} {x : Nat} (h : x = mt_best M l) : mt_cnt M (l ++ [x]) = mt_cnt M l + 1 := by
  unfold mt_cnt
  rw [mt_best_app, if_neg (by omega), List.count_append, h]
  simp
theorem mt_cnt_app_gt {M : Nat} {l : List Nat} {x : Nat} (h : mt_best M l < x) : mt_cnt M (l ++ [x]) = mt_cnt M l := by
  unfold mt_cnt
  rw [mt_best_app, if_neg (by omega), List.count_append]
  have h0 : ¬ x = mt_best M l := by omega
  simp [List.count_cons, h0]

theorem s_l : ∀ n, n < 32 → ((nI n &&& 31).toBitVec.smod 32).toNat = n := by decide +kernel
/-! ===== lN n to 2^64: shifts, and, or, masks, one bit ===== -/
theorem wb_tb (n : Nat) : (lN n).toBitVec = BitVec.ofNat 64 n := rfl
theorem wb_inj {a b : Int64} (h : a.toBitVec = b.toBitVec) : a = b := Int64.toBitVec_inj.mp h
theorem wb_tn {n : Nat} (h : n < 2 ^ 64) : (lN n).toBitVec.toNat = n := by rw [wb_tb, BitVec.toNat_ofNat, Nat.mod_eq_of_lt h]
theorem wb_of (x : Int64) : ∃ n, n < 2 ^ 64 ∧ x = lN n := ⟨x.toBitVec.toNat, x.toBitVec.isLt, wb_inj (by rw [wb_tb]; simp)⟩
theorem wb_of32 (x : Int32) : ∃ n, n < 2 ^ 32 ∧ x = nI n := ⟨x.toBitVec.toNat, x.toBitVec.isLt, Int32.toBitVec_inj.mp (by show _ = BitVec.ofNat 32 _; simp)⟩
theorem wb_c : ∀ k, k < 64 → ((nI k).toInt64 &&& 63) = lN k := by decide +kernel
theorem wb_cu : ∀ k, k < 64 → ((nI k).toInt64.toUInt64 &&& Int64.toUInt64 63) = UInt64.ofNat k := by decide +kernel
theorem wb_sm : ∀ k, k < 64 → (BitVec.ofNat 64 k).smod 64 = BitVec.ofNat 64 k := by decide +kernel
theorem wb_pw {a b : Nat} (h : a ≤ b) : 2 ^ b = 2 ^ a * 2 ^ (b - a) := by rw [← Nat.pow_add]; congr 1; omega
theorem wb_lt2 {a b : Nat} (h : a < b) : 2 ^ a < 2 ^ b := Nat.pow_lt_pow_right (by decide) h
theorem wb_mod (n : Nat) : lN n = lN (n % 2 ^ 64) := wb_inj (by rw [wb_tb, wb_tb]; apply BitVec.eq_of_toNat_eq; rw [BitVec.toNat_ofNat, BitVec.toNat_ofNat, Nat.mod_mod])
theorem wb_shr {n k : Nat} (hn : n < 2 ^ 64) (hk : k < 64) : ((lN n).toUInt64 >>> ((nI k).toInt64.toUInt64 &&& Int64.toUInt64 63)).toInt64 = lN (n / 2 ^ k) := by
  rw [wb_cu k hk]
  apply wb_inj
  apply BitVec.eq_of_toNat_eq
  show ((lN n).toUInt64 >>> UInt64.ofNat k).toNat = (BitVec.ofNat 64 _).toNat
  have h1 : (UInt64.ofNat k).toNat = k := by
    show (BitVec.ofNat 64 k).toNat = k
    rw [BitVec.toNat_ofNat, Nat.mod_eq_of_lt (by omega)]
  have h2 : (lN n).toUInt64.toNat = n := wb_tn hn
  rw [UInt64.toNat_shiftRight, h1, h2, Nat.mod_eq_of_lt hk, Nat.shiftRight_eq_div_pow, BitVec.toNat_ofNat, Nat.mod_eq_of_lt (Nat.lt_of_le_of_lt (Nat.div_le_self _ _) hn)]
theorem wb_shl (n : Nat) {k : Nat} (hk : k < 64) : lN n <<< ((nI k).toInt64 &&& 63) = lN (n * 2 ^ k) := by
  rw [wb_c k hk]
  apply wb_inj
  rw [Int64.toBitVec_shiftLeft, wb_tb, wb_tb, wb_tb, wb_sm k hk]
  apply BitVec.eq_of_toNat_eq
  rw [BitVec.shiftLeft_eq', BitVec.toNat_shiftLeft, BitVec.toNat_ofNat, BitVec.toNat_ofNat, BitVec.toNat_ofNat, Nat.mod_eq_of_lt (show k < 2 ^ 64 by omega), Nat.shiftLeft_eq, Nat.mul_mod, Nat.mod_mod, ← Nat.mul_mod]
theorem wb_and {a b : Nat} (ha : a < 2 ^ 64) (hb : b < 2 ^ 64) : lN a &&& lN b = lN (a &&& b) := by
  apply wb_inj
  rw [Int64.toBitVec_and, wb_tb, wb_tb, wb_tb]
  apply BitVec.eq_of_toNat_eq
  rw [BitVec.toNat_and, BitVec.toNat_ofNat, BitVec.toNat_ofNat, BitVec.toNat_ofNat, Nat.mod_eq_of_lt ha, Nat.mod_eq_of_lt hb, Nat.mod_eq_of_lt (Nat.and_lt_two_pow _ hb)]
theorem wb_or {a b : Nat} (ha : a < 2 ^ 64) (hb : b < 2 ^ 64) : lN a ||| lN b = lN (a ||| b) := by
  apply wb_inj
  rw [Int64.toBitVec_or, wb_tb, wb_tb, wb_tb]
  apply BitVec.eq_of_toNat_eq
  rw [BitVec.toNat_or, BitVec.toNat_ofNat, BitVec.toNat_ofNat, BitVec.toNat_ofNat, Nat.mod_eq_of_lt ha, Nat.mod_eq_of_lt hb, Nat.mod_eq_of_lt (Nat.or_lt_two_pow ha hb)]
theorem wb_mask {n k : Nat} (hn : n < 2 ^ 64) (hk : k < 64) : lN n &&& lN (2 ^ k - 1) = lN (n % 2 ^ k) := by
  rw [wb_and hn (by have := wb_lt2 hk; omega), Nat.and_two_pow_sub_one_eq_mod]
theorem wb_a1 {n : Nat} (hn : n < 2 ^ 64) : lN n &&& 1 = lN (n % 2) := wb_mask (k := 1) hn (by decide)
theorem wb_bit {n k : Nat} (hn : n < 2 ^ 64) (hk : k < 64) : ((lN n).toUInt64 >>> ((nI k).toInt64.toUInt64 &&& Int64.toUInt64 63)).toInt64 &&& 1 = lN (n / 2 ^ k % 2) := by
  rw [wb_shr hn hk, wb_a1 (Nat.lt_of_le_of_lt (Nat.div_le_self _ _) hn)]
theorem wb_xor {q k : Nat} (hk : k < 63) (h : 2 ^ k ≤ q) (h2 : q < 2 ^ (k + 1)) : lN q ^^^ lN (2 ^ k) = lN (q - 2 ^ k) := by
  obtain ⟨r, rfl⟩ : ∃ r, q = 2 ^ k + r := ⟨q - 2 ^ k, by omega⟩
  have hr : r < 2 ^ k := by rw [Nat.pow_succ] at h2; omega
  have hx : (2 ^ k + r) ^^^ 2 ^ k = r := by
    apply Nat.eq_of_testBit_eq
    intro i
    rw [Nat.testBit_xor, Nat.testBit_two_pow]
    rcases Nat.lt_trichotomy i k with h | h | h
    · rw [Nat.testBit_two_pow_add_gt h]
      simp [show ¬ k = i by omega]
    · subst h
      rw [Nat.testBit_two_pow_add_eq]
      simp
    · have a1 : 2 ^ (k + 1) ≤ 2 ^ i := Nat.pow_le_pow_right (by decide) h
      rw [Nat.testBit_lt_two_pow (show 2 ^ k + r < 2 ^ i by omega), Nat.testBit_lt_two_pow (show r < 2 ^ i by omega)]
      simp [show ¬ k = i by omega]
  have b1 := wb_lt2 (show k + 1 < 64 by omega)
  have b2 := wb_lt2 (show k < 64 by omega)
  apply wb_inj
  rw [Int64.toBitVec_xor, wb_tb, wb_tb, wb_tb]
  apply BitVec.eq_of_toNat_eq
  rw [BitVec.toNat_xor, BitVec.toNat_ofNat, BitVec.toNat_ofNat, BitVec.toNat_ofNat, Nat.mod_eq_of_lt (by omega : 2 ^ k + r < 2 ^ 64), Nat.mod_eq_of_lt b2, hx, Nat.add_sub_cancel_left, Nat.mod_eq_of_lt (by omega)]
/-! ===== lN: masks, 'or' of parts that don't overlap is a sum ===== -/
theorem u_tn {n : Nat} (h : n < 2 ^ 64) : (UInt64.ofNat n).toNat = n := Nat.mod_eq_of_lt h
theorem g_and {a b c : Nat} (ha : a < 2 ^ 64) (hb : b < 2 ^ 64) (hc : a &&& b = c) : lN a &&& lN b = lN c := by
  subst hc
  have h : UInt64.ofNat a &&& UInt64.ofNat b = UInt64.ofNat (a &&& b) := UInt64.toNat_inj.mp (by rw [UInt64.toNat_and, u_tn ha, u_tn hb, u_tn (Nat.and_lt_two_pow a hb)])
  have h2 := congrArg UInt64.toInt64 h
  exact h2
theorem g_and1 {a : Nat} (ha : a < 2 ^ 64) : lN a &&& 1 = lN (a % 2) := g_and (b := 1) ha (by decide) (Nat.and_two_pow_sub_one_eq_mod a 1)
theorem g_mask {a s p : Nat} (hp : 2 ^ s = p) (hs : s < 64) (ha : a < 2 ^ 64) : lN a &&& lN (p - 1) = lN (a % p) := by
  subst hp
  have := Nat.pow_lt_pow_right (show 1 < 2 by decide) hs
  exact g_and ha (by omega) (Nat.and_two_pow_sub_one_eq_mod a s)
theorem g_or {k p a b : Nat} (hp : 2 ^ k = p) (ha : a < p) (h : b * p + a < 2 ^ 64) : lN (b * p) ||| lN a = lN (b * p + a) := by
  subst hp
  have h1 : b * 2 ^ k ||| a = b * 2 ^ k + a := by rw [← Nat.shiftLeft_eq, Nat.shiftLeft_add_eq_or_of_lt ha]
  have h3 : UInt64.ofNat (b * 2 ^ k) ||| UInt64.ofNat a = UInt64.ofNat (b * 2 ^ k + a) := UInt64.toNat_inj.mp (by rw [UInt64.toNat_or, u_tn (by omega), u_tn (by omega), u_tn h, h1])
  have h2 := congrArg UInt64.toInt64 h3
  exact h2
theorem g_or' {k p a b : Nat} (hp : 2 ^ k = p) (ha : a < p) (h : a + b * p < 2 ^ 64) : lN a ||| lN (b * p) = lN (a + b * p) := by
  rw [Int64.or_comm, g_or hp ha (by omega), Nat.add_comm]
theorem g_ushr {a k p : Nat} {y : UInt64} (hy : y = UInt64.ofNat k) (hk : k < 64) (hp : 2 ^ k = p) (ha : a < 2 ^ 64) : ((lN a).toUInt64 >>> y).toInt64 = lN (a / p) := by
  subst hy hp
  have h : UInt64.ofNat a >>> UInt64.ofNat k = UInt64.ofNat (a / 2 ^ k) := UInt64.toNat_inj.mp (by rw [UInt64.toNat_shiftRight, u_tn ha, u_tn (by omega), u_tn (Nat.lt_of_le_of_lt (Nat.div_le_self _ _) ha), Nat.mod_eq_of_lt hk, Nat.shiftRight_eq_div_pow])
  have h2 := congrArg UInt64.toInt64 h
  exact h2
theorem g_shl {a k p : Nat} {y : Int64} (hy : y.toBitVec.smod 64 = BitVec.ofNat 64 k) (hk : k < 64) (hp : 2 ^ k = p) (ha : a < 2 ^ 64) : lN a <<< y = lN (a * p) := by
  subst hp
  apply Int64.toBitVec_inj.mp
  rw [Int64.toBitVec_shiftLeft, hy]
  apply BitVec.eq_of_toNat_eq
  have hb : (lN a).toBitVec.toNat = a := Nat.mod_eq_of_lt ha
  have hk' : (BitVec.ofNat 64 k).toNat = k := Nat.mod_eq_of_lt (by omega)
  have h : ((lN a).toBitVec <<< BitVec.ofNat 64 k).toNat = (a * 2 ^ k) % 2 ^ 64 := by simp only [BitVec.shiftLeft_eq', BitVec.toNat_shiftLeft, hb, hk', Nat.shiftLeft_eq]
  exact h
/-! ===== own rows on ints ===== -/
theorem nx_or (a b : Nat) : nI a ||| nI b = nI (a ||| b) := by
  apply Int32.toBitVec_inj.1
  show BitVec.ofNat 32 a ||| BitVec.ofNat 32 b = BitVec.ofNat 32 (a ||| b)
  apply BitVec.eq_of_getLsbD_eq
  intro i hi
  simp [hi]
theorem nI_mod (n : Nat) : (nI n).toBitVec.toNat = n % 2 ^ 32 := BitVec.toNat_ofNat n 32
theorem nI_and (n k : Nat) {m : Int32} (hk : k ≤ 32) (hm : m.toBitVec.toNat = 2 ^ k - 1) : nI n &&& m = nI (n % 2 ^ k) := by
  rw [pk_and _ k hm, nI_mod, Nat.mod_mod_of_dvd n (Nat.pow_dvd_pow 2 hk)]
/-- a form's state, a form's code -/
theorem bt_st {f i : Nat} (hf : f < 2 ^ 63) (hi : i < 4) : (((lN f).toUInt64 >>> (((49 : Int32) + ((3 : Int32) * ((3 : Int32) - nI i))).toInt64.toUInt64 &&& Int64.toUInt64 63)).toInt64).toInt32 &&& (7 : Int32) = nI (sp_st f i) := by
  have e0 : (3 : Int32) - nI i = nI (3 - i) := pk_sub (a := 3) (by omega)
  have e1 : (3 : Int32) * nI (3 - i) = nI (3 * (3 - i)) := pk_mul 3 (3 - i)
  have e2 : (49 : Int32) + nI (3 * (3 - i)) = nI (49 + 3 * (3 - i)) := nI_add 49 _
  rw [e0, e1, e2, wb_shr (by omega) (by omega), lN_i, nI_and _ 3 (by omega) (by decide)]
  rfl
theorem bt_co {f j : Nat} (hf : f < 2 ^ 63) (hj : j < 7) : ((((lN f).toUInt64 >>> (((7 : Int32) * ((6 : Int32) - nI j)).toInt64.toUInt64 &&& Int64.toUInt64 63)).toInt64).toInt32 &&& (127 : Int32)) - (1 : Int32) = nI (sp_co f j) - 1 := by
  have e0 : (6 : Int32) - nI j = nI (6 - j) := pk_sub (a := 6) (by omega)
  have e1 : (7 : Int32) * nI (6 - j) = nI (7 * (6 - j)) := pk_mul 7 (6 - j)
  rw [e0, e1, wb_shr (by omega) (by omega), lN_i, nI_and _ 7 (by omega) (by decide)]
  rfl
/-- a numbering's digit -/
def sp_cn (q i : Nat) : Nat := q / 2 ^ (4 * i) % 4
theorem bt_cn {q i : Nat} (hq : q < 65536) (hi : i < 4) : (nI q >>> (((4 : Int32) * nI i) &&& 31)) &&& (3 : Int32) = nI (sp_cn q i) := by
  have e1 : (4 : Int32) * nI i = nI (4 * i) := pk_mul 4 i
  rw [e1, pk_shrN (by omega) _ (4 * i) (s_l (4 * i) (by omega)), nI_and _ 2 (by omega) (by decide)]
  rfl
theorem bt_or0 : ∀ b, b < 8 → ∀ c, c < 8 → ∀ d, d < 8 → ∀ s, s < 8 → (((0 * 8 + b) * 8 + c) * 8 + d) ||| (s * 2 ^ 9) = ((s * 8 + b) * 8 + c) * 8 + d := by decide +kernel
theorem bt_or1 : ∀ a, a < 8 → ∀ c, c < 8 → ∀ d, d < 8 → ∀ s, s < 8 → (((a * 8 + 0) * 8 + c) * 8 + d) ||| (s * 2 ^ 6) = ((a * 8 + s) * 8 + c) * 8 + d := by decide +kernel
theorem bt_or2 : ∀ a, a < 8 → ∀ b, b < 8 → ∀ d, d < 8 → ∀ s, s < 8 → (((a * 8 + b) * 8 + 0) * 8 + d) ||| (s * 2 ^ 3) = ((a * 8 + b) * 8 + s) * 8 + d := by decide +kernel
theorem bt_or3 : ∀ a, a < 8 → ∀ b, b < 8 → ∀ c, c < 8 → ∀ s, s < 8 → (((a * 8 + b) * 8 + c) * 8 + 0) ||| (s * 2 ^ 0) = ((a * 8 + b) * 8 + c) * 8 + s := by decide +kernel
def sp_k4 (d : Nat → Nat) : Nat := ((d 0 * 8 + d 1) * 8 + d 2) * 8 + d 3
theorem sp_k4_or {d : Nat → Nat} {j s : Nat} (hd : ∀ i, d i < 8) (hj : j < 4) (h0 : d j = 0) (hs : s < 8) : sp_k4 d ||| (s * 2 ^ (3 * (3 - j))) = sp_k4 (fun i => if i = j then s else d i) := by
  unfold sp_k4
  rcases (show j = 0 ∨ j = 1 ∨ j = 2 ∨ j = 3 by omega) with rfl | rfl | rfl | rfl
  · simp only [h0]
    exact bt_or0 _ (hd 1) _ (hd 2) _ (hd 3) _ hs
  · simp only [h0]
    exact bt_or1 _ (hd 0) _ (hd 2) _ (hd 3) _ hs
  · simp only [h0]
    exact bt_or2 _ (hd 0) _ (hd 1) _ (hd 3) _ hs
  · simp only [h0]
    exact bt_or3 _ (hd 0) _ (hd 1) _ (hd 2) _ hs
theorem sp_k4_lt {d : Nat → Nat} (hd : ∀ i, d i < 8) : sp_k4 d < 4096 := by
  unfold sp_k4
  have h0 := hd 0
  have h1 := hd 1
  have h2 := hd 2
  have h3 := hd 3
  omega
/-- the codes' part of a form -/
def sp_k7 (l : List Nat) (n : Nat) : Nat := mt_val (fun _ => 128) (sp_dC l) n
theorem sp_key_split (N : Nat) (st : Nat → Nat) (cs : List Nat) (g : Nat → Nat) : sp_key N st cs g = sp_k4 (sp_dS st g N) * 2 ^ 49 + sp_k7 (mt_sort (cs.map (sp_ren g))) 7 := by
  unfold sp_key
  rw [show (11 : Nat) = 4 + 7 from rfl, mt_val_add 4 7]
  have h1 : mt_val sp_B (sp_dg N st g cs) 4 = sp_k4 (sp_dS st g N) := by
    simp [mt_val, sp_B, sp_dg, sp_k4]
  have h2 : (List.range 7).foldl (fun a i => a * sp_B (4 + i)) 1 = 2 ^ 49 := by decide +kernel
  have h3 : (fun i => sp_B (4 + i)) = fun _ => 128 := by
    funext i
    unfold sp_B
    rw [if_neg (by omega)]
  have h4 : (fun i => sp_dg N st g cs (4 + i)) = sp_dC (mt_sort (cs.map (sp_ren g))) := by
    funext i
    unfold sp_dg
    rw [if_neg (by omega), Nat.add_sub_cancel_left]
  rw [h1, h2, h3, h4]
  rfl
theorem sp_k7_s {l : List Nat} {n c : Nat} (h : l[n]? = some c) : sp_k7 l (n + 1) = sp_k7 l n * 128 + (c + 1) := by
  show sp_k7 l n * 128 + sp_dC l n = _
  rw [sp_dC_at h]
theorem sp_k7_pad (l : List Nat) : ∀ t : Nat, sp_k7 l (l.length + t) = sp_k7 l l.length * 2 ^ (7 * t) := by
  intro t
  induction t with
  | zero => simp
  | succ t ih =>
    show sp_k7 l (l.length + t) * 128 + sp_dC l (l.length + t) = _
    rw [ih, sp_dC_no (by omega), show 7 * (t + 1) = 7 * t + 7 by omega, Nat.pow_add, Nat.mul_assoc]
    rfl
theorem sp_k7_lt {l : List Nat} (h : ∀ c ∈ l, c < 96) : ∀ n : Nat, sp_k7 l n < 128 ^ n := by
  intro n
  induction n with
  | zero => exact Nat.lt_succ_self 0
  | succ n ih =>
    show sp_k7 l n * 128 + sp_dC l n < _
    have h1 := sp_dC_lt h n
    rw [Nat.pow_succ]
    omega
/-! arrays that hold a list; sorting in place -/
def ar_is (a : Nat → Int32) (o : Nat) (l : List Nat) : Prop := ∀ (j c : Nat), l[j]? = some c → a (o + j) = nI c
theorem mt_ins_eq (x : Nat) : ∀ (l : List Nat) (k : Nat), (∀ j c, j < k → l[j]? = some c → c ≤ x) → (∀ j c, k ≤ j → l[j]? = some c → x < c) → k ≤ l.length → mt_ins x l = l.take k ++ x :: l.drop k := by
  intro l
  induction l with
  | nil =>
    intro k _ _ h
    have e : k = 0 := by simpa using h
    subst e
    rfl
  | cons y r ih =>
    intro k h1 h2 h3
    cases k with
    | zero =>
      have h := h2 0 y (Nat.le_refl _) rfl
      unfold mt_ins
      rw [if_pos h]
      rfl
    | succ k =>
      have h := h1 0 y (Nat.succ_pos _) rfl
      unfold mt_ins
      rw [if_neg (by omega), ih k (fun j c hj hc => h1 (j + 1) c (by omega) (by simpa using hc)) (fun j c hj hc => h2 (j + 1) c (by omega) (by simpa using hc)) (by simpa using h3)]
      rfl
theorem mt_sd_le : ∀ {l : List Nat}, mt_sd l → ∀ {i j a b : Nat}, i ≤ j → l[i]? = some a → l[j]? = some b → a ≤ b := by
  intro l
  induction l with
  | nil => intro _ i j a b _ h; simp at h
  | cons y r ih =>
    intro hs i j a b hij ha hb
    cases j with
    | zero =>
      have e : i = 0 := by omega
      subst e
      rw [ha] at hb
      cases hb
      exact Nat.le_refl _
    | succ j =>
      have hb' : r[j]? = some b := by simpa using hb
      cases i with
      | zero =>
        have e : y = a := by simpa using ha
        subst e
        exact hs.1 b (List.mem_of_getElem? hb')
      | succ i =>
        have ha' : r[i]? = some a := by simpa using ha
        exact ih hs.2 (by omega) ha' hb'
theorem ar_ins {a s : Nat → Int32} {o k x : Nat} {l : List Nat} (hs : ar_is s o l) (hsd : mt_sd l) (hk : k ≤ l.length) (h1 : ∀ j, j < k → a (o + j) = s (o + j)) (h2 : ∀ j, k ≤ j → j < l.length → a (o + j + 1) = s (o + j))
    (h3 : ∀ j c, k ≤ j → l[j]? = some c → x < c) (h4 : ∀ c, 0 < k → l[k - 1]? = some c → c ≤ x) : ar_is (upd a (o + k) (nI x)) o (mt_ins x l) := by
  have h5 : ∀ j c, j < k → l[j]? = some c → c ≤ x := by
    intro j c hj hc
    have hlt : k - 1 < l.length := by omega
    exact Nat.le_trans (mt_sd_le hsd (show j ≤ k - 1 by omega) hc (List.getElem?_eq_getElem hlt)) (h4 _ (by omega) (List.getElem?_eq_getElem hlt))
  rw [mt_ins_eq x l k h5 h3 hk]
  intro j c hj
  have hlen : (l.take k).length = k := by rw [List.length_take]; omega
  unfold upd
  by_cases e1 : j < k
  · rw [List.getElem?_append_left (by omega), List.getElem?_take_of_lt e1] at hj
    rw [if_neg (by omega), h1 j e1]
    exact hs j c hj
  · rw [List.getElem?_append_right (by omega), hlen] at hj
    by_cases e2 : j = k
    · subst e2
      rw [Nat.sub_self] at hj
      have e : x = c := by simpa using hj
      rw [if_pos rfl, e]
    · obtain ⟨i, rfl⟩ : ∃ i, j = i + 1 := ⟨j - 1, by omega⟩
      rw [show i + 1 - k = (i - k) + 1 by omega, List.getElem?_cons_succ, List.getElem?_drop, show k + (i - k) = i by omega] at hj
      have hlt : i < l.length := (List.getElem?_eq_some_iff.mp hj).1
      rw [if_neg (by omega), show o + (i + 1) = o + i + 1 by omega, h2 i (by omega) hlt]
      exact hs i c hj

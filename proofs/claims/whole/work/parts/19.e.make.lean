/-! ===== THE REFERENCE: make, step ===== -/
def nxs (a : Nat → Int32) (S4 : Nat → Nat) (l : List Nat) : Prop := (∀ i, i < 4 → a i = nI (S4 i)) ∧ a 4 = nI l.length ∧ ar_is a 5 (mt_sort l)
theorem nxs_add {a a' : Nat → Int32} {S4 : Nat → Nat} {l : List Nat} {c : Nat} (h : nxs a S4 l) (h1 : ∀ j, j < 4 → a' j = a j) (h2 : a' 4 = nI ((mt_sort l).length + 1)) (h3 : ar_is a' 5 (mt_ins c (mt_sort l))) : nxs a' S4 (l ++ [c]) := by
  refine ⟨fun i hi => by rw [h1 i hi]; exact h.1 i hi, ?_, ?_⟩
  · rw [h2, mt_sort_len, List.length_append]; rfl
  · rw [mt_sort_app]; exact h3
theorem mk_base {cs : List Nat} {p k : Nat} (hp : p < cs.length) (hk : k < cs.length) : (k < p → (cs.eraseIdx p)[k]? = cs[k]?) ∧ (p < k → (cs.eraseIdx p)[k - 1]? = cs[k]?) := by
  constructor
  · intro h; rw [List.getElem?_eraseIdx, if_pos h]
  · intro h; rw [List.getElem?_eraseIdx, if_neg (by omega)]; congr 1; omega
def sp_RM_make : am_S := fun av w post => ∃ (R : sp_R) (room z node r recv : Nat) (E : sp_E) (th sm at9 cd : Int32) (o : Nat → Nat) (nx ls : Nat → Int32), av = [aR 0, aI (nI z), aI (nI node), aI (nI r), aI cd] ∧ w.length = 19 ∧ (rq R room E th sm at9 o nx ls w) ∧ (z < eZ E) ∧ (node < rN R) ∧ (r < rU R) ∧ (cd = if recv = 0 then (-1) else nI ((sp_cs (eF E z)).getD (recv - 1) 0)) ∧ ((recv = 0 ∧ rV R r = 0) ∨ (0 < recv ∧ recv ≤ sp_n (eF E z) ∧ rV R r ≠ 0 ∧ ∀ j, j < recv - 1 → (sp_cs (eF E z)).getD j 0 ≠ (sp_cs (eF E z)).getD (recv - 1) 0)) ∧ ((¬ sp_n (eF E z) + sp_gw R r (rC R r) ≤ (if recv = 0 then 7 else 8) → post (some (aI 0)) w) ∧ (sp_n (eF E z) + sp_gw R r (rC R r) ≤ (if recv = 0 then 7 else 8) → ∀ (nx' : Nat → Int32) (w' : List am_C), nxs nx' (sp_ns R (eF E z) node r) (sp_nc R (eF E z) node r recv) → rq R room E th sm at9 o nx' ls w' → post (some (aI 1)) w'))
set_option maxRecDepth 20000 in
set_option maxHeartbeats 2000000 in
theorem c_RM_make : Con y_RM_make b_RM_make 10 (some .boolean) 1 0 0 false sp_RM_make := by
  refine Con.of (by decide) (fun av w post h => by obtain ⟨R, room, z, node, r, recv, E, th, sm, at9, cd, o, nx, ls, rfl, -⟩ := h; exact Nat.le_of_ble_eq_true rfl) ?_
  intro X K hnm av w post h hr _
  obtain ⟨R, room, z, node, r, recv, E, th, sm, at9, cd, o, nx, ls, rfl, hlen, hw, hz, hn, hrU, hcd, hrc, hp⟩ := h
  obtain ⟨c0, c1, c2, c3, c4, c5, c6, c7, c8, c9, c10, c11, c12, c13, c14, c15, c16, c17, c18, rfl⟩ := len19 hlen
  have hw0 := hw
  obtain ⟨bw, xf, xe, xt, xn, xk, xw, xb, nm, ro, od, le, pa, br, so, al, ot, hwe, hR, hE, hro, hA, hN, hS, hO, hbw⟩ := hw
  rw [hwe] at hw0 hp ⊢
  clear hwe
  obtain ⟨⟨hN1, hN4, hS8, hK6, hU40⟩, hRu, hRs⟩ := id hR
  obtain ⟨b1, b2, b3, b4, b5⟩ := hRu r hrU
  obtain ⟨a1, a2, a3, a4, a5⟩ := hA.1 r hrU
  obtain ⟨f, hf⟩ : ∃ f, f = eF E z := ⟨_, rfl⟩
  have hzr := hE.1.1
  have hrow := (hS z hz).1
  have hvk := (hE.2.1 z hz).1
  rw [← hf] at hp hcd hrc hrow hvk
  have hcl := sp_cs_len f
  have hn7 := sp_n_le f
  have hin40 : vp_in (nI r) 40 := vp_in_nI (by omega) (by decide)
  have x124 : ((12 : Int32) * nI z) + (4 : Int32) = nI (12 * z + 4) := x12 z 4
  have x125 : ∀ k : Nat, ((((12 : Int32) * nI z) + (5 : Int32)) + nI k) = nI (12 * z + 5 + k) := by
    intro k
    have h' : ((12 : Int32) * nI z) + (5 : Int32) = nI (12 * z + 5) := x12 z 5
    rw [h', nI_add]
  have hin4 : vp_in (nI (12 * z + 4)) 98304 := vp_in_nI (by omega) (by decide)
  obtain ⟨B, hB⟩ : ∃ B, B = (if recv = 0 then sp_cs f else (sp_cs f).eraseIdx (recv - 1)) := ⟨_, rfl⟩
  obtain ⟨sd, hsd⟩ : ∃ sd, sd = (sp_cs f).getD (recv - 1) 0 / 4 % 4 := ⟨_, rfl⟩
  have hncE : sp_nc R f node r recv = B ++ sp_sn R node r sd (rC R r) := by rw [hB, hsd]; rfl
  have hBm : ∀ c ∈ B, c < 96 := by
    intro c hc
    rw [hB] at hc
    split at hc
    · exact (hvk.2.1 c hc).1
    · exact (hvk.2.1 c (List.mem_of_mem_eraseIdx hc)).1
  have hBl : B.length + (if recv = 0 then 0 else 1) = sp_n f := by
    rw [hB]
    rcases hrc with ⟨q1, -⟩ | ⟨q1, q2, -⟩
    · rw [if_pos q1, if_pos q1, hcl]; rfl
    · rw [if_neg (by omega), if_neg (by omega), List.length_eraseIdx, if_pos (by omega)]; omega
  have hcd0 : 0 ≤ cd ↔ ¬ recv = 0 := by
    rw [hcd]
    rcases hrc with ⟨q1, -⟩ | ⟨q1, q2, -⟩
    · rw [if_pos q1]; exact ⟨fun h => absurd h (by decide), fun h => absurd q1 h⟩
    · rw [if_neg (by omega)]
      have := (hvk.2.1 _ (sp_getD_mem (l := sp_cs f) (i := recv - 1) (by omega)).1).1
      exact ⟨fun _ => by omega, fun _ => nI_pos' (by omega)⟩
  have body : sp_n f + sp_gw R r (rC R r) ≤ (if recv = 0 then 7 else 8) → AW X 87 [some (aR 0), some (aI (nI z)), some (aI (nI node)), some (aI (nI r)), some (aI cd), none, some (aI 0), none, none, none] [] [cRM th (nI (rN R)) (nI room) (nI (rS R)) (nI (rK R)) (nI (rU R)) (nI (sp_fc (rN R))) (nI (eZ E)) (nI (eG E)) (nI (eT E)) (nI (eO E)) (nI (eK E)) (rc_en (eN E)) bw sm at9, iC 40 xf, iC 40 xe, iC 40 xt, iC 40 xn, iC 160 xk, iC 160 xw, zC 64 xb, iC 96 nm, iC 98304 ro, iC 8192 od, iC 8192 le, iC 8192 pa, iC 8192 br, iC 8192 so, iC 8192 al, iC 12 nx, iC 12 ot, iC 12 ls] 0 0 := by
    intro hcap
    replace hp := hp.2 hcap
    have htot : B.length + sp_gw R r (rC R r) ≤ 7 := by
      rcases hrc with ⟨q1, -⟩ | ⟨q1, q2, -⟩
      · rw [if_pos q1] at hcap hBl; omega
      · rw [if_neg (by omega)] at hcap hBl; omega
    have hk6 : ∀ i, i < rC R r → rk R (4 * r + i) < 6 := fun i hi => by have := (b5 i hi).2.1; omega
    have hfin : ∀ (nx' : Nat → Int32), nxs nx' (sp_ns R f node r) (B ++ sp_sn R node r sd (rC R r)) → post (some (aI 1)) [cRM th (nI (rN R)) (nI room) (nI (rS R)) (nI (rK R)) (nI (rU R)) (nI (sp_fc (rN R))) (nI (eZ E)) (nI (eG E)) (nI (eT E)) (nI (eO E)) (nI (eK E)) (rc_en (eN E)) bw sm at9, iC 40 xf, iC 40 xe, iC 40 xt, iC 40 xn, iC 160 xk, iC 160 xw, zC 64 xb, iC 96 nm, iC 98304 ro, iC 8192 od, iC 8192 le, iC 8192 pa, iC 8192 br, iC 8192 so, iC 8192 al, iC 12 nx', iC 12 ot, iC 12 ls] := by
      intro nx' h
      exact hp nx' _ (by rw [hncE]; exact h) ⟨bw, xf, xe, xt, xn, xk, xw, xb, nm, ro, od, le, pa, br, so, al, ot, rfl, hR, hE, hro, hA, hN, hS, hO, hbw⟩
    have adder : ∀ (l : List Nat) (c : Nat) (nx' : Nat → Int32) (post' : Option am_V → List am_C → Prop), nxs nx' (sp_ns R f node r) l → l.length < 7 → (∀ x ∈ l, x < 96) → c < 96 → (∀ nx2, nxs nx2 (sp_ns R f node r) (l ++ [c]) → post' none [cRM th (nI (rN R)) (nI room) (nI (rS R)) (nI (rK R)) (nI (rU R)) (nI (sp_fc (rN R))) (nI (eZ E)) (nI (eG E)) (nI (eT E)) (nI (eO E)) (nI (eK E)) (rc_en (eN E)) bw sm at9, iC 40 xf, iC 40 xe, iC 40 xt, iC 40 xn, iC 160 xk, iC 160 xw, zC 64 xb, iC 96 nm, iC 98304 ro, iC 8192 od, iC 8192 le, iC 8192 pa, iC 8192 br, iC 8192 so, iC 8192 al, iC 12 nx2, iC 12 ot, iC 12 ls]) → sp_RM_add_16 [aR 0, aR 16, aI (nI c)] [cRM th (nI (rN R)) (nI room) (nI (rS R)) (nI (rK R)) (nI (rU R)) (nI (sp_fc (rN R))) (nI (eZ E)) (nI (eG E)) (nI (eT E)) (nI (eO E)) (nI (eK E)) (rc_en (eN E)) bw sm at9, iC 40 xf, iC 40 xe, iC 40 xt, iC 40 xn, iC 160 xk, iC 160 xw, zC 64 xb, iC 96 nm, iC 98304 ro, iC 8192 od, iC 8192 le, iC 8192 pa, iC 8192 br, iC 8192 so, iC 8192 al, iC 12 nx', iC 12 ot, iC 12 ls] post' := by
      intro l c nx' post' h1 h2 h3 h4 h5
      refine ⟨c, mt_sort l, nx', rfl, rfl, rfl, by rw [mt_sort_len]; exact h1.2.1, h1.2.2, mt_sort_sd _, by rw [mt_sort_len]; exact h2, fun x hx => h3 x ((mt_sort_p l).mem_iff.mp hx), h4, fun a' g1 g2 g3 => h5 a' (nxs_add h1 g1 g2 g3)⟩
    have hsn96 : ∀ i, i ≤ rC R r → ∀ x ∈ sp_sn R node r sd i, x < 96 := by
      intro i hi x hx
      have hs9 : rV R r ≠ 0 → sd < rN R := by
        intro hv
        rcases hrc with ⟨-, q⟩ | ⟨q1, q2, -⟩
        · exact absurd q hv
        · rw [hsd]; exact (hvk.2.1 _ (sp_getD_mem (l := sp_cs f) (i := recv - 1) (by omega)).1).2.1
      exact (sp_sn_vc hR hrU hn hs9 i hi x hx).1
    have k221 : ∀ (t i : Nat) (nx' : Nat → Int32), i + t = rC R r → nxs nx' (sp_ns R f node r) (B ++ sp_sn R node r sd i) → AW X 221 [some (aR 0), none, some (aI (nI node)), some (aI (nI r)), some (aI cd), none, none, some (aI (nI i)), none, none] [] [cRM th (nI (rN R)) (nI room) (nI (rS R)) (nI (rK R)) (nI (rU R)) (nI (sp_fc (rN R))) (nI (eZ E)) (nI (eG E)) (nI (eT E)) (nI (eO E)) (nI (eK E)) (rc_en (eN E)) bw sm at9, iC 40 xf, iC 40 xe, iC 40 xt, iC 40 xn, iC 160 xk, iC 160 xw, zC 64 xb, iC 96 nm, iC 98304 ro, iC 8192 od, iC 8192 le, iC 8192 pa, iC 8192 br, iC 8192 so, iC 8192 al, iC 12 nx', iC 12 ot, iC 12 ls] 0 0 := by
      intro t
      induction t with
      | zero =>
        intro i nx' hi h1
        have e : i = rC R r := by omega
        subst e
        refine x_RM_make_221 K hr c_RM_add_16 (by decide) ⟨hin40, ?_⟩
        rw [nI_clamp (by omega), a4]
        exact ⟨fun _ => hfin nx' h1, fun z => absurd (Int32.le_refl _) z⟩
      | succ t ih =>
        intro i nx' hi h1
        have hi' : i < rC R r := by omega
        obtain ⟨k1, k2⟩ := a5 i hi'
        obtain ⟨w1, w2, w3⟩ := b5 i hi'
        have hk := hk6 i hi'
        have hg1 : sp_gw R r (i + 1) ≤ sp_gw R r (rC R r) := sp_gw_le (by omega)
        have hlen : (B ++ sp_sn R node r sd i).length = B.length + sp_gw R r i := by rw [List.length_append, sp_sn_len (by omega) hn]
        have hm96 : ∀ x ∈ B ++ sp_sn R node r sd i, x < 96 := by
          intro x hx
          rcases List.mem_append.mp hx with h | h
          · exact hBm x h
          · exact hsn96 i (by omega) x h
        have hin160 : vp_in (nI (4 * r + i)) 160 := vp_in_nI (by omega) (by decide)
        have esn : sp_sn R node r sd (i + 1) = sp_sn R node r sd i ++ sp_s1 R node (4 * r + i) sd := rfl
        have xbs : ((16 : Int32) * nI (rk R (4 * r + i))) + ((4 : Int32) * nI node) = nI (16 * rk R (4 * r + i) + 4 * node) := by
          have h : nI 16 * nI (rk R (4 * r + i)) + nI 4 * nI node = nI (16 * rk R (4 * r + i) + 4 * node) := by rw [pk_mul, pk_mul, nI_add]
          exact h
        have nextI : ∀ (nx2 : Nat → Int32) (l8 : Int32) (j : Nat), j < rN R → rW R (4 * r + i) = 0 → nxs nx2 (sp_ns R f node r) (B ++ sp_sn R node r sd (i + 1)) → AW X 286 [some (aR 0), none, some (aI (nI node)), some (aI (nI r)), some (aI cd), none, none, some (aI (nI i)), some (aI l8), some (aI (nI j))] [] [cRM th (nI (rN R)) (nI room) (nI (rS R)) (nI (rK R)) (nI (rU R)) (nI (sp_fc (rN R))) (nI (eZ E)) (nI (eG E)) (nI (eT E)) (nI (eO E)) (nI (eK E)) (rc_en (eN E)) bw sm at9, iC 40 xf, iC 40 xe, iC 40 xt, iC 40 xn, iC 160 xk, iC 160 xw, zC 64 xb, iC 96 nm, iC 98304 ro, iC 8192 od, iC 8192 le, iC 8192 pa, iC 8192 br, iC 8192 so, iC 8192 al, iC 12 nx2, iC 12 ot, iC 12 ls] 0 0 := by
          intro nx2 l8 j hj hw0 h9
          refine x_RM_make_286 K hr c_RM_add_16 (by decide) ⟨fun z => absurd z (nI_ge hj (by omega)), fun _ => ?_⟩
          rw [x4, nI_clamp (n := 4 * r + i) (by omega), k2, hw0]
          refine ⟨hin160, fun _ => ?_, fun z => absurd z (by decide)⟩
          rw [nI_1]
          exact ih (i + 1) nx2 (by omega) h9
        refine x_RM_make_221 K hr c_RM_add_16 (by decide) ⟨hin40, ?_⟩
        rw [nI_clamp (n := r) (by omega), a4, x4, nI_clamp (n := 4 * r + i) (by omega), k2, k1, xbs]
        refine ⟨fun z => absurd z (nI_ge (by omega) (by omega)), fun _ => ⟨hin160, hin160, fun z => ?_, fun z => ?_⟩⟩
        · have hw1 : rW R (4 * r + i) = 1 := by
            rcases (show rW R (4 * r + i) = 0 ∨ rW R (4 * r + i) = 1 by omega) with q | q
            · exact absurd (by rw [q]; rfl) z
            · exact q
          refine x_RM_make_283 K hr ?_
          have hgs : sp_gw R r (i + 1) = sp_gw R r i + (rN R - 1) := by
            show sp_gw R r i + (if rW R (4 * r + i) = 0 then 1 else rN R - 1) = _
            rw [hw1]; rfl
          have hptN : sp_pt R node (4 * r + i) sd (rN R) = sp_s1 R node (4 * r + i) sd := sp_pt_N (by omega) (fun h => by omega)
          have hptl : (sp_pt R node (4 * r + i) sd (rN R)).length = rN R - 1 := by
            rw [hptN, sp_s1_len (by omega) hn, hw1]; rfl
          have k286 : ∀ (t j : Nat) (nx' : Nat → Int32), j + t = rN R → nxs nx' (sp_ns R f node r) ((B ++ sp_sn R node r sd i) ++ sp_pt R node (4 * r + i) sd j) → AW X 286 [some (aR 0), none, some (aI (nI node)), some (aI (nI r)), some (aI cd), none, none, some (aI (nI i)), some (aI (nI (16 * rk R (4 * r + i) + 4 * node))), some (aI (nI j))] [] [cRM th (nI (rN R)) (nI room) (nI (rS R)) (nI (rK R)) (nI (rU R)) (nI (sp_fc (rN R))) (nI (eZ E)) (nI (eG E)) (nI (eT E)) (nI (eO E)) (nI (eK E)) (rc_en (eN E)) bw sm at9, iC 40 xf, iC 40 xe, iC 40 xt, iC 40 xn, iC 160 xk, iC 160 xw, zC 64 xb, iC 96 nm, iC 98304 ro, iC 8192 od, iC 8192 le, iC 8192 pa, iC 8192 br, iC 8192 so, iC 8192 al, iC 12 nx', iC 12 ot, iC 12 ls] 0 0 := by
            intro t2
            induction t2 with
            | zero =>
              intro j nx' hj h2
              have e : j = rN R := by omega
              subst e
              refine x_RM_make_286 K hr c_RM_add_16 (by decide) ⟨fun _ => ?_, fun z => absurd (Int32.le_refl _) z⟩
              rw [nI_1]
              refine ih (i + 1) nx' (by omega) ?_
              rw [esn, ← hptN, ← List.append_assoc]
              exact h2
            | succ t2 ih2 =>
              intro j nx' hj h2
              refine x_RM_make_286 K hr c_RM_add_16 (by decide) ⟨fun z => absurd z (nI_ge (by omega) (by omega)), fun _ => ?_⟩
              rw [x4, nI_clamp (n := 4 * r + i) (by omega), k2, hw1]
              refine ⟨hin160, fun z => absurd rfl z, fun _ => ⟨fun z2 => ?_, fun z2 => ?_⟩⟩
              · have ej : j = node := (nI_eq (by omega) (by omega)).mp z2
                refine x_RM_make_329 K hr ?_
                rw [nI_1]
                refine ih2 (j + 1) nx' (by omega) ?_
                rw [sp_pt_s, hw1, ej]
                simp only [Nat.one_ne_zero, if_false, beq_self_eq_true, Bool.not_true, Bool.false_eq_true, List.append_nil]
                rw [ej] at h2
                exact h2
              · have ej : ¬ j = node := fun q => z2 (by rw [q])
                rw [nI_add]
                have hpt1 : sp_pt R node (4 * r + i) sd (j + 1) = sp_pt R node (4 * r + i) sd j ++ [16 * rk R (4 * r + i) + 4 * node + j] := by
                  rw [sp_pt_s, hw1]
                  simp [ej]
                have hle := sp_pt_le R node (4 * r + i) sd (m := rN R) (n := j + 1) (by omega)
                rw [hpt1, hptl, List.length_append] at hle
                have hle' : (sp_pt R node (4 * r + i) sd j).length + 1 ≤ rN R - 1 := hle
                refine adder _ _ nx' _ h2 (by rw [List.length_append, hlen]; omega) (fun x hx => ?_) (by omega) (fun nx2 h3 => ?_)
                · rcases List.mem_append.mp hx with h | h
                  · exact hm96 x h
                  · unfold sp_pt at h
                    obtain ⟨y, hy, rfl⟩ := List.mem_map.mp h
                    have := List.mem_range.mp (List.mem_filter.mp hy).1
                    omega
                · refine x_RM_make_329 K hr ?_
                  rw [nI_1]
                  refine ih2 (j + 1) nx2 (by omega) ?_
                  rw [hpt1, ← List.append_assoc]
                  exact h3
          exact k286 (rN R) 0 nx' (by omega) (by show nxs nx' _ (_ ++ []); rw [List.append_nil]; exact h1)
        · have hw0 : rW R (4 * r + i) = 0 := (nI_eq (b := 0) (by omega) (by omega)).mp z
          have hv : rV R r ≠ 0 := fun h => by have := w3 h; omega
          have hgs : sp_gw R r (i + 1) = sp_gw R r i + 1 := by
            show sp_gw R r i + (if rW R (4 * r + i) = 0 then 1 else rN R - 1) = _
            rw [hw0]; rfl
          rcases hrc with ⟨-, q⟩ | ⟨q1, q2, q3, q4⟩
          · exact absurd q hv
          · have hmem := hvk.2.1 _ (sp_getD_mem (l := sp_cs f) (i := recv - 1) (by omega)).1
            have ecd : cd = nI ((sp_cs f).getD (recv - 1) 0) := by rw [hcd, if_neg (by omega)]
            rw [show (cd / (4 : Int32)) - (cd / (4 : Int32)) / (4 : Int32) * (4 : Int32) = nI sd from by rw [ecd, xq4 hmem.1, hsd], nI_add]
            have hsdN : sd < rN R := by rw [hsd]; exact hmem.2.1
            refine adder _ _ nx' _ h1 (by rw [hlen]; omega) hm96 (by omega) (fun nx2 h3 => ?_)
            refine x_RM_make_283 K hr ?_
            refine nextI nx2 _ 0 (by omega) hw0 ?_
            rw [esn, ← List.append_assoc]
            have es1 : sp_s1 R node (4 * r + i) sd = [16 * rk R (4 * r + i) + 4 * node + sd] := by unfold sp_s1; rw [if_pos hw0]
            rw [es1]
            exact h3
    have k152 : ∀ (t k : Nat) (nx' : Nat → Int32), k + t = sp_n f → nxs nx' (sp_ns R f node r) (B.take (if recv = 0 ∨ k < recv then k else k - 1)) → AW X 152 [some (aR 0), some (aI (nI z)), some (aI (nI node)), some (aI (nI r)), some (aI cd), none, some (aI (if recv = 0 ∨ recv ≤ k then 1 else 0)), some (aI (nI k)), none, none] [] [cRM th (nI (rN R)) (nI room) (nI (rS R)) (nI (rK R)) (nI (rU R)) (nI (sp_fc (rN R))) (nI (eZ E)) (nI (eG E)) (nI (eT E)) (nI (eO E)) (nI (eK E)) (rc_en (eN E)) bw sm at9, iC 40 xf, iC 40 xe, iC 40 xt, iC 40 xn, iC 160 xk, iC 160 xw, zC 64 xb, iC 96 nm, iC 98304 ro, iC 8192 od, iC 8192 le, iC 8192 pa, iC 8192 br, iC 8192 so, iC 8192 al, iC 12 nx', iC 12 ot, iC 12 ls] 0 0 := by
      intro t
      induction t with
      | zero =>
        intro k nx' hk h1
        refine x_RM_make_152 K hr ?_
        rw [x124, nI_clamp (n := 12 * z + 4) (by omega), hrow.2.1]
        refine ⟨hin4, fun _ => ?_, fun z => absurd (nI_le (by omega) (by omega)) z⟩
        refine k221 (rC R r) 0 nx' (by omega) ?_
        have e : B.take (if recv = 0 ∨ k < recv then k else k - 1) = B := by
          apply List.take_of_length_le
          rcases hrc with ⟨q1, -⟩ | ⟨q1, q2, -⟩
          · rw [if_pos (Or.inl q1)]; rw [if_pos q1] at hBl; omega
          · rw [if_neg (by omega)]; rw [if_neg (by omega)] at hBl; omega
        rw [e] at h1
        show nxs nx' _ (B ++ [])
        rw [List.append_nil]
        exact h1
      | succ t ih =>
        intro k nx' hk h1
        have hkl : k < (sp_cs f).length := by omega
        have hgk : (sp_cs f)[k]? = some ((sp_cs f).getD k 0) := (sp_getD_mem hkl).2
        have hck := (hvk.2.1 _ (sp_getD_mem hkl).1).1
        have er : ro (12 * z + 5 + k) = nI ((sp_cs f).getD k 0) := hrow.2.2 k _ hgk
        refine x_RM_make_152 K hr ?_
        rw [x124, nI_clamp (n := 12 * z + 4) (by omega), hrow.2.1, x125, nI_clamp (n := 12 * z + 5 + k) (by omega), er]
        have goadd : ∀ (fl : Int32), fl = (if recv = 0 ∨ recv ≤ k then 1 else 0) → (recv = 0 ∨ k + 1 < recv ∨ recv ≤ k) → AW X 202 [some (aR 0), some (aI (nI z)), some (aI (nI node)), some (aI (nI r)), some (aI cd), none, some (aI fl), some (aI (nI k)), some (aI (nI ((sp_cs f).getD k 0))), none] [] [cRM th (nI (rN R)) (nI room) (nI (rS R)) (nI (rK R)) (nI (rU R)) (nI (sp_fc (rN R))) (nI (eZ E)) (nI (eG E)) (nI (eT E)) (nI (eO E)) (nI (eK E)) (rc_en (eN E)) bw sm at9, iC 40 xf, iC 40 xe, iC 40 xt, iC 40 xn, iC 160 xk, iC 160 xw, zC 64 xb, iC 96 nm, iC 98304 ro, iC 8192 od, iC 8192 le, iC 8192 pa, iC 8192 br, iC 8192 so, iC 8192 al, iC 12 nx', iC 12 ot, iC 12 ls] 0 0 := by
          intro fl hfl hcase
          have hBk : B[(if recv = 0 ∨ k < recv then k else k - 1)]? = some ((sp_cs f).getD k 0) := by
            rw [hB]
            rcases hcase with q | q | q
            · rw [if_pos (Or.inl q), if_pos q]; exact hgk
            · rw [if_pos (Or.inr (by omega)), if_neg (by omega), (mk_base (by omega) hkl).1 (by omega)]; exact hgk
            · by_cases q0 : recv = 0
              · rw [if_pos (Or.inl q0), if_pos q0]; exact hgk
              · rw [if_neg q0, if_neg (show ¬ (recv = 0 ∨ k < recv) by omega), (mk_base (by omega) hkl).2 (by omega)]; exact hgk
          have hidx : (if recv = 0 ∨ k + 1 < recv then k + 1 else k + 1 - 1) = (if recv = 0 ∨ k < recv then k else k - 1) + 1 := by
            rcases hcase with q | q | q
            · rw [if_pos (Or.inl q), if_pos (Or.inl q)]
            · rw [if_pos (Or.inr q), if_pos (Or.inr (by omega))]
            · by_cases q0 : recv = 0
              · rw [if_pos (Or.inl q0), if_pos (Or.inl q0)]
              · rw [if_neg (by omega), if_neg (by omega)]; omega
          have hfl2 : fl = (if recv = 0 ∨ recv ≤ k + 1 then 1 else 0) := by
            rw [hfl]
            rcases hcase with q | q | q
            · rw [if_pos (Or.inl q), if_pos (Or.inl q)]
            · rw [if_neg (by omega), if_neg (by omega)]
            · rw [if_pos (Or.inr q), if_pos (Or.inr (by omega))]
          have hlt9 := (List.getElem?_eq_some_iff.mp hBk).1
          refine x_RM_make_202 K hr c_RM_add_16 (by decide) ?_
          refine adder _ _ nx' _ h1 (by rw [List.length_take]; omega) (fun x hx => hBm x (List.mem_of_mem_take hx)) hck (fun nx2 h3 => ?_)
          refine x_RM_make_212 K hr ?_
          rw [nI_1, hfl2]
          refine ih (k + 1) nx2 (by omega) ?_
          rw [hidx, List.take_add_one, hBk]
          exact h3
        refine ⟨hin4, fun z => absurd z (nI_ge (by omega) (by omega)), fun _ => ⟨vp_in_nI (by omega) (by decide), fun z2 => ?_, fun z2 => ⟨fun z3 => ?_, fun z3 => ?_⟩⟩⟩
        · refine goadd _ rfl ?_
          by_cases q : recv = 0 ∨ recv ≤ k
          · rcases q with q | q
            · exact Or.inl q
            · exact Or.inr (Or.inr q)
          · rw [if_neg q] at z2; exact absurd rfl z2
        · have q : ¬ (recv = 0 ∨ recv ≤ k) := fun q => by rw [if_pos q] at z2; exact absurd z2 (by decide)
          refine goadd _ rfl (Or.inr (Or.inl ?_))
          rcases Nat.lt_or_ge (k + 1) recv with h | h
          · exact h
          · have e : k = recv - 1 := by omega
            exact absurd (by rw [hcd, if_neg (by omega), e]) z3
        · have q : ¬ (recv = 0 ∨ recv ≤ k) := fun q => by rw [if_pos q] at z2; exact absurd z2 (by decide)
          rcases hrc with ⟨q1, -⟩ | ⟨q1, q2, q3, q4⟩
          · exact absurd (Or.inl q1) q
          · have ek : k = recv - 1 := by
              rcases Nat.lt_or_ge k (recv - 1) with h | h
              · have hm := (hvk.2.1 _ (sp_getD_mem (l := sp_cs f) (i := recv - 1) (by omega)).1).1
                rw [hcd, if_neg (by omega)] at z3
                exact absurd ((nI_eq (by omega) (by omega)).mp z3) (q4 k h)
              · omega
            refine x_RM_make_212 K hr ?_
            rw [nI_1]
            have hfl2 : (1 : Int32) = (if recv = 0 ∨ recv ≤ k + 1 then 1 else 0) := by rw [if_pos (Or.inr (by omega))]
            rw [hfl2]
            refine ih (k + 1) nx' (by omega) ?_
            rw [if_neg (by omega)]
            rw [if_pos (Or.inr (by omega))] at h1
            exact h1
    have k87 : ∀ (t k : Nat) (nx' : Nat → Int32), k + t = 4 → (∀ i, i < k → nx' i = nI (sp_st f i)) → AW X 87 [some (aR 0), some (aI (nI z)), some (aI (nI node)), some (aI (nI r)), some (aI cd), none, some (aI (nI k)), none, none, none] [] [cRM th (nI (rN R)) (nI room) (nI (rS R)) (nI (rK R)) (nI (rU R)) (nI (sp_fc (rN R))) (nI (eZ E)) (nI (eG E)) (nI (eT E)) (nI (eO E)) (nI (eK E)) (rc_en (eN E)) bw sm at9, iC 40 xf, iC 40 xe, iC 40 xt, iC 40 xn, iC 160 xk, iC 160 xw, zC 64 xb, iC 96 nm, iC 98304 ro, iC 8192 od, iC 8192 le, iC 8192 pa, iC 8192 br, iC 8192 so, iC 8192 al, iC 12 nx', iC 12 ot, iC 12 ls] 0 0 := by
      intro t
      induction t with
      | zero =>
        intro k nx' hk h1
        have e : k = 4 := by omega
        subst e
        have h9 : nxs (upd (upd nx' node (nI (rT R r))) 4 0) (sp_ns R f node r) [] := by
          refine ⟨fun i hi => ?_, pk_us .., fun j c hc => by simp [mt_sort] at hc⟩
          rw [pk_un (by omega)]
          unfold sp_ns upN
          by_cases e : i = node
          · rw [if_pos e, e, pk_us]
          · rw [if_neg e, pk_un e]; exact h1 i hi
        refine x_RM_make_87 K hr ⟨fun _ => ?_, fun z => absurd (Int32.le_refl _) z⟩
        rw [nI_clamp (n := r) (by omega), nI_clamp (n := node) (by omega), a3, xc4]
        refine ⟨hin40, vp_in_nI (by omega) (by decide), fun z => ?_, fun z => ?_⟩
        · have q : ¬ recv = 0 := hcd0.mp z
          have h := k152 (sp_n f) 0 _ (by omega) (by rw [if_pos (Or.inr (by omega))]; exact h9)
          rw [if_neg (by omega)] at h
          exact h
        · have q : recv = 0 := Decidable.byContradiction fun q => z (hcd0.mpr q)
          have h := k152 (sp_n f) 0 _ (by omega) (by rw [if_pos (Or.inl q)]; exact h9)
          rw [if_pos (Or.inl q)] at h
          exact h
      | succ t ih =>
        intro k nx' hk h1
        refine x_RM_make_87 K hr ⟨fun z => absurd z (nI_ge (a := k) (b := 4) (by omega) (by decide)), fun _ => ?_⟩
        rw [x12, nI_clamp (n := 12 * z + k) (by omega), nI_clamp (n := k) (by omega), hrow.1 k (by omega), nI_1]
        refine ⟨vp_in_nI (by omega) (by decide), vp_in_nI (by omega) (by decide), ih (k + 1) _ (by omega) (fun i hi => ?_)⟩
        by_cases e : i = k
        · rw [e, pk_us]
        · rw [pk_un e]; exact h1 i (by omega)
    exact k87 4 0 nx (by omega) (fun i hi => by omega)
  have k6 : ∀ (t i : Nat), i + t = rC R r → AW X 6 [some (aR 0), some (aI (nI z)), some (aI (nI node)), some (aI (nI r)), some (aI cd), some (aI (nI (sp_gw R r i))), some (aI (nI i)), none, none, none] [] [cRM th (nI (rN R)) (nI room) (nI (rS R)) (nI (rK R)) (nI (rU R)) (nI (sp_fc (rN R))) (nI (eZ E)) (nI (eG E)) (nI (eT E)) (nI (eO E)) (nI (eK E)) (rc_en (eN E)) bw sm at9, iC 40 xf, iC 40 xe, iC 40 xt, iC 40 xn, iC 160 xk, iC 160 xw, zC 64 xb, iC 96 nm, iC 98304 ro, iC 8192 od, iC 8192 le, iC 8192 pa, iC 8192 br, iC 8192 so, iC 8192 al, iC 12 nx, iC 12 ot, iC 12 ls] 0 0 := by
    have hgb : ∀ n, n ≤ 4 → sp_gw R r n ≤ 3 * n := by
      intro n
      induction n with
      | zero => intro _; exact Nat.le_refl _
      | succ n ih =>
        intro h
        have h1 := ih (by omega)
        show sp_gw R r n + (if rW R (4 * r + n) = 0 then 1 else rN R - 1) ≤ _
        split <;> omega
    intro t
    induction t with
    | zero =>
      intro i hi
      have e : i = rC R r := by omega
      subst e
      have hg12 := hgb (rC R r) b4
      refine x_RM_make_6 K hr ⟨hin40, ?_⟩
      rw [nI_clamp (n := r) (by omega), a4, x124, nI_clamp (n := 12 * z + 4) (by omega), hrow.2.1]
      refine ⟨fun _ => ⟨hin4, fun z => ?_, fun z => ?_⟩, fun z => absurd (Int32.le_refl _) z⟩
      · have q : ¬ recv = 0 := hcd0.mp z
        have hn1 : 1 ≤ sp_n f := by rw [if_neg q] at hBl; omega
        obtain ⟨m, hm⟩ : ∃ m, sp_n f = m + 1 := ⟨sp_n f - 1, by omega⟩
        have es : (nI (sp_n f) - (1 : Int32)) + nI (sp_gw R r (rC R r)) = nI (m + sp_gw R r (rC R r)) := by rw [hm, nI_pred, nI_add]
        refine x_RM_make_73 K hr ⟨fun z2 => body ?_, fun z2 => hp.1 ?_⟩
        · rw [es] at z2
          have := (nI_leI (b := 7) (by omega) (by decide)).mp z2
          rw [if_neg q]; omega
        · rw [es] at z2
          intro h
          rw [if_neg q] at h
          exact z2 ((nI_leI (b := 7) (by omega) (by decide)).mpr (by omega))
      · have q : recv = 0 := Decidable.byContradiction fun q => z (hcd0.mpr q)
        have es : (nI (sp_n f) - (0 : Int32)) + nI (sp_gw R r (rC R r)) = nI (sp_n f + sp_gw R r (rC R r)) := by rw [Int32.sub_zero, nI_add]
        refine x_RM_make_73 K hr ⟨fun z2 => body ?_, fun z2 => hp.1 ?_⟩
        · rw [es] at z2
          have := (nI_leI (b := 7) (by omega) (by decide)).mp z2
          rw [if_pos q]; omega
        · rw [es] at z2
          intro h
          rw [if_pos q] at h
          exact z2 ((nI_leI (b := 7) (by omega) (by decide)).mpr (by omega))
    | succ t ih =>
      intro i hi
      obtain ⟨k1, k2⟩ := a5 i (by omega)
      obtain ⟨w1, w2, w3⟩ := b5 i (by omega)
      have esn : sp_gw R r (i + 1) = sp_gw R r i + (if rW R (4 * r + i) = 0 then 1 else rN R - 1) := rfl
      refine x_RM_make_6 K hr ⟨hin40, ?_⟩
      rw [nI_clamp (n := r) (by omega), a4, x4, nI_clamp (n := 4 * r + i) (by omega), k2]
      refine ⟨fun z => absurd z (nI_ge (by omega) (by omega)), fun _ => ⟨vp_in_nI (by omega) (by decide), fun z => ?_, fun z => ?_⟩⟩
      · have q : ¬ rW R (4 * r + i) = 0 := fun q => z (by rw [q]; rfl)
        have h := ih (i + 1) (by omega)
        obtain ⟨m, hm⟩ : ∃ m, rN R = m + 1 := ⟨rN R - 1, by omega⟩
        have e2 : nI (sp_gw R r i) + (nI (rN R) - (1 : Int32)) = nI (sp_gw R r (i + 1)) := by
          rw [esn, if_neg q, hm, nI_pred, nI_add, Nat.add_sub_cancel]
        rw [e2, nI_1]
        exact h
      · have q : rW R (4 * r + i) = 0 := (nI_eq (b := 0) (by omega) (by omega)).mp z
        have h := ih (i + 1) (by omega)
        rw [esn, if_pos q] at h
        rw [nI_1, nI_1]
        exact h
  refine x_RM_make_0 K hr ?_
  exact k6 (rC R r) 0 (by omega)

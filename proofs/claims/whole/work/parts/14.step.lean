/-! ===== the class's cells hold what was told and what was explored; Explorer.makeStep ===== -/
def rc_en (n : Nat) : Int32 := if n = 0 then 0 else if n = 1 then (-1) else (-2)
def rc_sd (fc : Nat) (Y : Nat → Nat) : Nat → Nat
  | 0 => 0
  | n + 1 => rc_sd fc Y n + fc / Y n
theorem rc_sd_up (fc : Nat) (Y : Nat → Nat) (z y : Nat) : ∀ n, n ≤ z → rc_sd fc (upN Y z y) n = rc_sd fc Y n := by
  intro n
  induction n with
  | zero => intro _; rfl
  | succ n ih =>
    intro h
    unfold rc_sd
    rw [ih (by omega), upN_n Y y (show n ≠ z by omega)]
def rc_A (R : sp_R) (bp : Int64) (ms me mt mn mk mw mg : Nat → Int32) : Prop :=
  (∀ r, r < rU R → ms r = nI (rF R r) ∧ me r = nI (rV R r) - 1 ∧ mt r = nI (rT R r) ∧ mn r = nI (rC R r) ∧ mg r = nI (sp_gw R r (rC R r)) + (if rV R r = 0 then 0 else (-1)) ∧ ∀ i, i < rC R r → mk (4 * r + i) = nI (rk R (4 * r + i)) ∧ mw (4 * r + i) = nI (rW R (4 * r + i))) ∧
  (∀ r, rU R ≤ r → r < 40 → mn r = 0) ∧ mo_B bp (rB R)
def rc_S (e : Nat) (E : sp_E) (fo : Nat → Int64) (le og ru sp sy sa : Nat → Int32) : Prop :=
  (∀ k, k < eZ E → fo k = lN (eF E k) ∧ le k = nI (eL E k) ∧ og k = nI (eP E k) - 1 ∧ ru k = nI (eR E k) - 1 ∧ sp k = nI (eS E k) - 1 ∧ sy k = nI (eY E k)) ∧ ∃ sl : Nat → Nat, (∀ p, p < 2 ^ e → sa p = nI (sl p)) ∧ st_T e (eZ E) (eF E) sl
def rc_e (room e : Nat) : Prop := 1 ≤ room ∧ room ≤ 8192 ∧ 1 ≤ e ∧ e ≤ 20 ∧ 2 * room ≤ 2 ^ e
/-- the class's world: R told, E explored (here: steps from the whole that is gone through; the source draft: uz, us, uc) -/
def rc (R : sp_R) (room e : Nat) (E : sp_E) (here : Nat) (uz : Int32) (us uc : Nat → Int32) (w : List am_C) : Prop :=
  ∃ (bp uf vf : Int64) (uy vz vy : Int32) (ms me mt mn mk mw mg le og ru sp sy sa uo vs vc vo : Nat → Int32) (fo : Nat → Int64),
    w = [oC 0 [aR 1, aR 9, aR 17], cMo (nI (rN R)) (nI (rS R)) (nI (rK R)) (nI (rU R)) bp, iC 40 ms, iC 40 me, iC 40 mt, iC 40 mn, iC 160 mk, iC 160 mw, iC 40 mg, cSt (nI (eZ E)), jC room fo, iC room le, iC room og, iC room ru, iC room sp, iC room sy, iC (2 ^ e) sa, cEx (rc_en (eN E)) (nI (eG E)) (nI (eT E)) (nI (eO E)) (nI (eK E)) (nI (rc_sd (sp_fc (rN R)) (eY E) (eZ E))) (nI here), cDu (nI (rN R)) (nI (sp_fc (rN R))) uz uf uy, iC 4 us, iC 7 uc, iC 7 uo, cDv (nI (rN R)) (nI (sp_fc (rN R))) vz vf vy, iC 4 vs, iC 7 vc, iC 7 vo] ∧ rv R ∧ ev R room E ∧ rc_e room e ∧ rc_A R bp ms me mt mn mk mw mg ∧ rc_S e E fo le og ru sp sy sa
/-- the source draft holds the form f -/
def rc_u (N f : Nat) (uz : Int32) (us uc : Nat → Int32) : Prop := uz = nI (sp_n f) ∧ (∀ i, i < N → us i = nI (sp_st f i)) ∧ ar_is uc 0 (sp_cs f)
theorem ar_len {a b : Nat → Int32} {l : List Nat} (h : ar_is a 0 l) (hl : l.length ≤ 7) (hb : ∀ j, j < 7 → b j = a j) : ar_is b 0 l := by
  intro j c hj
  have hlt := (List.getElem?_eq_some_iff.mp hj).1
  have := h j c hj
  rw [Nat.zero_add] at this ⊢
  rw [hb j (by omega)]
  exact this
theorem bt_s2b {c : Nat} (h : c < 96) : (nI c >>> ((2 : Int32) &&& 31)) &&& (3 : Int32) = nI (c / 4 % 4) := bt_s2 c h
theorem sp_tk_S {R : sp_R} {E : sp_E} {e : Nat} {st : Nat → Nat} {cs : List Nat} {par rul p d : Nat} {fo : Nat → Int64} {le og ru sp sy sa : Nat → Int32} {lv : Int32} {sl : Nat → Nat} (h : ∀ k, k < eZ E → fo k = lN (eF E k) ∧ le k = nI (eL E k) ∧ og k = nI (eP E k) - 1 ∧ ru k = nI (eR E k) - 1 ∧ sp k = nI (eS E k) - 1 ∧ sy k = nI (eY E k)) (hsa : ∀ p, p < 2 ^ e → sa p = nI (sl p)) (hT : st_T e (eZ E) (eF E) sl)
    (hs : eZ E + 1 < 2 ^ e) (hp : p < 2 ^ e) (h0 : sl p = 0) (hd : d < 2 ^ e ∧ p = st_p e (sp_can (rN R) st cs) d ∧ ∀ d', d' < d → sl (st_p e (sp_can (rN R) st cs) d') ≠ 0) (hlv : lv = nI (if par = 0 then 0 else eL E (par - 1) + 1)) :
    rc_S e (sp_tk R E st cs par rul) (vp_updL fo (eZ E) (lN (sp_can (rN R) st cs))) (upd le (eZ E) lv) (upd og (eZ E) (nI par - 1)) (upd ru (eZ E) (nI rul - 1)) (upd sp (eZ E) (-1)) (upd sy (eZ E) (nI (sp_sym (rN R) st cs))) (upd sa p (nI (eZ E + 1))) := by
  refine ⟨fun k hk => ?_, upN sl p (eZ E + 1), fun q hq => ?_, st_T_add hT hs hp h0 ⟨d, hd⟩⟩
  · have hk' : k < eZ E + 1 := hk
    show vp_updL fo (eZ E) _ k = lN (upN (eF E) (eZ E) _ k) ∧ upd le (eZ E) lv k = nI (upN (eL E) (eZ E) _ k) ∧ upd og (eZ E) _ k = nI (upN (eP E) (eZ E) par k) - 1 ∧ upd ru (eZ E) _ k = nI (upN (eR E) (eZ E) rul k) - 1 ∧ upd sp (eZ E) (-1) k = nI (upN (eS E) (eZ E) 0 k) - 1 ∧ upd sy (eZ E) _ k = nI (upN (eY E) (eZ E) _ k)
    by_cases e1 : k = eZ E
    · rw [e1, upN_s, upN_s, upN_s, upN_s, upN_s, upN_s, pk_us, pk_us, pk_us, pk_us, pk_us, pk_uLs]
      exact ⟨rfl, hlv, rfl, rfl, by decide, rfl⟩
    · rw [upN_n _ _ e1, upN_n _ _ e1, upN_n _ _ e1, upN_n _ _ e1, upN_n _ _ e1, upN_n _ _ e1, pk_un e1, pk_un e1, pk_un e1, pk_un e1, pk_un e1, pk_uLn e1]
      exact h k (by omega)
  · by_cases e1 : q = p
    · rw [e1, upN_s, pk_us]
    · rw [upN_n _ _ e1, pk_un e1]
      exact hsa q hq
theorem nI_div {a b : Nat} (ha : a < 2 ^ 31) (hb0 : 0 < b) (hb : b < 2 ^ 31) : nI a / nI b = nI (a / b) := pk_div ha hb0 hb
theorem sp_mk_old {R : sp_R} {room f node r recv here : Nat} {E : sp_E} (h : sp_is E (sp_can (rN R) (sp_ns R f node r) (sp_nc R f node r recv)) = true) : sp_mk R room f node r recv (E, here) = ((eZ E, eG E, eT E + 1, eO E + 1, eK E, eN E, eF E, eL E, eP E, eR E, eS E, eY E), here + 1) := by
  obtain ⟨z, g, t, o, k, n, F, L, P, U, S, Y⟩ := E
  show (if _ then _ else _) = _
  rw [if_pos h]
theorem sp_mk_full {R : sp_R} {room f node r recv here : Nat} {E : sp_E} (h : sp_is E (sp_can (rN R) (sp_ns R f node r) (sp_nc R f node r recv)) = false) (hz : eZ E = room) : sp_mk R room f node r recv (E, here) = ((eZ E, eG E, eT E + 1, eO E, eK E, 1, eF E, eL E, eP E, eR E, eS E, eY E), here + 1) := by
  obtain ⟨z, g, t, o, k, n, F, L, P, U, S, Y⟩ := E
  show (if _ then _ else (if z = room then _ else _)) = _
  rw [if_neg (by rw [h]; decide), if_pos hz]
theorem sp_mk_new {R : sp_R} {room f node r recv here : Nat} {E : sp_E} (h : sp_is E (sp_can (rN R) (sp_ns R f node r) (sp_nc R f node r recv)) = false) (hz : ¬ eZ E = room) : sp_mk R room f node r recv (E, here) = (sp_tk R (eZ E, eG E, eT E + 1, eO E, eK E, eN E, eF E, eL E, eP E, eR E, eS E, eY E) (sp_ns R f node r) (sp_nc R f node r recv) (eG E + 1) (r + 1), here + 1) := by
  obtain ⟨z, g, t, o, k, n, F, L, P, U, S, Y⟩ := E
  show (if _ then _ else (if z = room then _ else _)) = _
  rw [if_neg (by rw [h]; decide), if_neg hz]
def sp_Ex_makeStep : am_S := fun av w post => ∃ (R : sp_R) (room e f node r recv here : Nat) (E : sp_E) (uz : Int32) (us uc : Nat → Int32), av = [aR 17, aI (nI node), aI (nI r), aI (nI recv - 1)] ∧ w.length = 26 ∧ (rc R room e E here uz us uc w) ∧ (rc_u (rN R) f uz us uc) ∧ (sp_ok R f node r recv) ∧ (eG E < eZ E) ∧ (∀ w' : List am_C, rc R room e (sp_mk R room f node r recv (E, here)).1 (sp_mk R room f node r recv (E, here)).2 uz us uc w' → post none w')
set_option maxRecDepth 20000 in
set_option maxHeartbeats 2000000 in
theorem c_Ex_makeStep : Con y_Ex_makeStep b_Ex_makeStep 5 none 3 0 0 false sp_Ex_makeStep := by
  refine Con.of (by decide) (fun av w post h => by obtain ⟨R, room, e, f, node, r, recv, here, E, uz, us, uc, rfl, -⟩ := h; exact Nat.le_of_ble_eq_true rfl) ?_
  intro X K hnm av w post h hr _
  obtain ⟨R, room, e, f, node, r, recv, here, E, uz, us, uc, rfl, hlen, hw, hu, hok, hg, hp⟩ := h
  obtain ⟨c0, c1, c2, c3, c4, c5, c6, c7, c8, c9, c10, c11, c12, c13, c14, c15, c16, c17, c18, c19, c20, c21, c22, c23, c24, c25, rfl⟩ := len26 hlen
  obtain ⟨bp, uf, vf, uy, vz, vy, ms, me, mt, mn, mk, mw, mg, le, og, ru, sp, sy, sa, uo, vs, vc, vo, fo, hwe, hR, hE, he, hA, hS, hsl⟩ := hw
  rw [hwe]
  clear hwe
  obtain ⟨hu1, hu2, hu3⟩ := hu
  obtain ⟨hn, hrU, hk, hrc, hgw⟩ := id hok
  obtain ⟨⟨hN1, hN4, hS8, hK6, hU40⟩, hRu, hRs⟩ := id hR
  obtain ⟨hA1, hA2, hA3⟩ := id hA
  obtain ⟨a1, a2, a3, a4, a5, a6⟩ := hA1 r hrU
  obtain ⟨b1, b2, b3, b4, b5⟩ := hRu r hrU
  obtain ⟨sl, hsa, hT⟩ := id hsl
  obtain ⟨he1, he2, he3, he4, he5⟩ := id he
  have hcl := sp_cs_len f
  have hn7 := sp_n_le f
  have hz := hE.1.1
  have hnc := sp_nc_len hR hok
  have hvc := sp_nc_vc hR hok
  have hkey := sp_new_vk hR hok
  have hns := sp_ns_lt (f := f) (node := node) hR hrU
  have hsym := sp_sym_pos hN1 hN4 (fun i _ => hns i) (fun c h => (hvc c h).1)
  have hev := ev_mk (s := (E, here)) hR hE hg hok
  rw [← hcl] at hu1
  subst hu1
  refine x_Ex_makeStep_0 K hr c_Dr_copyOf (by decide) ?_
  rw [nI_1, nI_1]
  refine ⟨_, _, _, _, _, _, _, _, _, _, us, uc, vs, vc, rfl, rfl, rfl, rfl, rfl, rfl, rfl, rfl, fun vs1 vc1 hv1 hv2 => ?_⟩
  refine x_Ex_makeStep_31 K hr c_Dr_removeCode (by decide) ⟨vp_in_nI (by omega) (by decide), vp_in_nI (by omega) (by decide), ?_⟩
  rw [nI_clamp (n := node) (by omega), nI_clamp (n := r) (by omega), a3]
  have hvs : ∀ i, i < rN R → upd vs1 node (nI (rT R r)) i = nI (sp_ns R f node r i) ∧ sp_ns R f node r i < 8 := by
    intro i hi
    refine ⟨?_, hns i⟩
    unfold upd sp_ns upN
    by_cases e1 : i = node
    · rw [if_pos e1, if_pos e1]
    · rw [if_neg e1, if_neg e1, hv1 i (by omega)]
      exact hu2 i hi
  obtain ⟨base, hbase⟩ : ∃ b, b = (if recv = 0 then sp_cs f else (sp_cs f).eraseIdx (recv - 1)) := ⟨_, rfl⟩
  have hlast : ∀ (p : Nat) (vc3 so' : Nat → Int32), p < 2 ^ e → st_S e (eZ E) (eF E) sl (sp_can (rN R) (sp_ns R f node r) (sp_nc R f node r recv)) p → AW X 106 [some (aR 17), none, some (aI (nI r)), none, none] [aI (nI p)] [oC 0 [aR 1, aR 9, aR 17], cMo (nI (rN R)) (nI (rS R)) (nI (rK R)) (nI (rU R)) bp, iC 40 ms, iC 40 me, iC 40 mt, iC 40 mn, iC 160 mk, iC 160 mw, iC 40 mg, cSt (nI (eZ E)), jC room fo, iC room le, iC room og, iC room ru, iC room sp, iC room sy, iC (2 ^ e) sa, cEx (rc_en (eN E)) (nI (eG E)) (nI (eT E + 1)) (nI (eO E)) (nI (eK E)) (nI (rc_sd (sp_fc (rN R)) (eY E) (eZ E))) (nI (here + 1)), cDu (nI (rN R)) (nI (sp_fc (rN R))) (nI (sp_cs f).length) uf uy, iC 4 us, iC 7 uc, iC 7 uo, cDv (nI (rN R)) (nI (sp_fc (rN R))) (nI (sp_nc R f node r recv).length) (lN (sp_can (rN R) (sp_ns R f node r) (sp_nc R f node r recv))) (nI (sp_sym (rN R) (sp_ns R f node r) (sp_nc R f node r recv))), iC 4 (upd vs1 node (nI (rT R r))), iC 7 vc3, iC 7 so'] 0 0 := by
    intro p vc3 so' hp1 hp2
    refine x_Ex_makeStep_106 K hr c_St_isTaken (by decide) ?_
    refine ⟨nI p, _, 2 ^ e, sa, rfl, rfl, rfl, rfl, vp_in_nI hp1 (by have := Nat.pow_le_pow_right (n := 2) (by decide) he4; omega), ?_⟩
    have hpow : 2 ^ e ≤ 2 ^ 20 := Nat.pow_le_pow_right (by decide) he4
    rw [nI_clamp (by omega), hsa p hp1]
    rcases hp2 with ⟨h0, hno, d, hd⟩ | ⟨k, hk1, hk2, hk3⟩
    · have his : sp_is E (sp_can (rN R) (sp_ns R f node r) (sp_nc R f node r recv)) = false := by
        cases h : sp_is E (sp_can (rN R) (sp_ns R f node r) (sp_nc R f node r recv)) with
        | false => rfl
        | true =>
          obtain ⟨i, hi, h2⟩ := sp_is_iff.mp h
          exact absurd h2 (hno i hi)
      rw [if_pos (by rw [h0]; rfl)]
      refine x_Ex_makeStep_117 K hr c_St_isFull (by decide) ⟨fun _ => ?_, fun z => absurd rfl z⟩
      refine ⟨_, room, fo, rfl, rfl, rfl, rfl, ?_⟩
      by_cases hfull : eZ E = room
      · rw [if_neg (fun h => by have := (nI_ltI (by omega) (by omega)).mp h; omega)]
        rw [sp_mk_full his hfull] at hp hev
        refine x_Ex_makeStep_140 K hr c_Ex_take (by decide) ⟨fun z => absurd z (by decide), fun _ => ?_⟩
        refine x_Ex_makeStep_162 K hr ?_
        exact hp _ ⟨bp, uf, _, uy, _, _, ms, me, mt, mn, mk, mw, mg, le, og, ru, sp, sy, sa, uo, _, vc3, so', fo, rfl, hR, hev.1, he, hA, hS, hsl⟩
      · have hlt : eZ E < room := by omega
        rw [if_pos ((nI_ltI (by omega) (by omega)).mpr hlt)]
        rw [sp_mk_new his hfull] at hp hev
        refine x_Ex_makeStep_140 K hr c_Ex_take (by decide) ⟨fun _ => ?_, fun z => absurd rfl z⟩
        refine ⟨nI p, nI (eG E), nI r, _, _, _, _, _, _, _, _, _, _, _, rN R, eZ E, room, 2 ^ e, _, _, bp, _, rB R, sp_ns R f node r, fo, le, og, ru, sp, sy, sa, _, rfl, rfl, rfl, rfl, rfl, rfl, rfl, rfl, rfl, rfl, rfl, rfl, rfl, rfl, hlt, by omega, vp_in_nI hp1 (by omega), hsym.1, hsym.2, hN4, hvs, hA3, hRs, ?_⟩
        refine x_Ex_makeStep_162 K hr ?_
        rw [nI_clamp (n := p) (by omega), nI_clamp (n := eG E) (by omega), if_pos ⟨nI_pos' (by omega), nI_lt hg (by omega)⟩, (hS (eG E) hg).2.1, nI_1, nI_div (by have := sp_fc_le (rN R); omega) (by omega) (by omega), nI_add]
        have hen : (if sp_bw (rN R) (rB R) (sp_ns R f node r) = true then (-2) else rc_en (eN E)) = rc_en (if sp_bw (rN R) (rB R) (sp_ns R f node r) = true then 2 else eN E) := by
          split
          · rfl
          · rfl
        have hsd : rc_sd (sp_fc (rN R)) (eY E) (eZ E) + sp_fc (rN R) / sp_sym (rN R) (sp_ns R f node r) (sp_nc R f node r recv) = rc_sd (sp_fc (rN R)) (upN (eY E) (eZ E) (sp_sym (rN R) (sp_ns R f node r) (sp_nc R f node r recv))) (eZ E + 1) := by
          show _ = rc_sd _ _ (eZ E) + _
          rw [rc_sd_up _ _ _ _ _ (Nat.le_refl _), upN_s]
        rw [hen, hsd]
        have hSS := sp_tk_S (R := R) (E := (eZ E, eG E, eT E + 1, eO E, eK E, eN E, eF E, eL E, eP E, eR E, eS E, eY E)) (st := sp_ns R f node r) (cs := sp_nc R f node r recv) (par := eG E + 1) (rul := r + 1) (p := p) (lv := nI (eL E (eG E) + 1)) hS hsa hT (show eZ E + 1 < 2 ^ e by omega) hp1 h0 hd rfl
        rw [nI_pred, nI_pred] at hSS
        exact hp _ ⟨bp, uf, _, uy, _, _, ms, me, mt, mn, mk, mw, mg, _, _, _, _, _, _, uo, _, vc3, so', _, rfl, hR, hev.1, he, hA, hSS⟩
    · have his : sp_is E (sp_can (rN R) (sp_ns R f node r) (sp_nc R f node r recv)) = true := sp_is_iff.mpr ⟨k, hk1, hk3⟩
      rw [sp_mk_old his] at hp hev
      rw [if_neg (by rw [hk2]; exact nI_ne0 (by omega) (by omega))]
      refine x_Ex_makeStep_117 K hr c_St_isFull (by decide) ⟨fun z => absurd z (by decide), fun _ => ?_⟩
      refine x_Ex_makeStep_162 K hr ?_
      rw [nI_1]
      exact hp _ ⟨bp, uf, _, uy, _, _, ms, me, mt, mn, mk, mw, mg, le, og, ru, sp, sy, sa, uo, _, vc3, so', fo, rfl, hR, hev.1, he, hA, hS, hsl⟩
  have cont : ∀ (l3 : Int32) (vc2 : Nat → Int32), ar_is vc2 0 base → (∀ i, i < rC R r → rW R (4 * r + i) = 0 → l3 = nI ((sp_cs f).getD (recv - 1) 0 / 4 % 4) ∧ (sp_cs f).getD (recv - 1) 0 / 4 % 4 < rN R) → AW X 82 [some (aR 17), none, some (aI (nI r)), none, none] [aI l3, aI (nI r), aI (nI node), aR 17] [oC 0 [aR 1, aR 9, aR 17], cMo (nI (rN R)) (nI (rS R)) (nI (rK R)) (nI (rU R)) bp, iC 40 ms, iC 40 me, iC 40 mt, iC 40 mn, iC 160 mk, iC 160 mw, iC 40 mg, cSt (nI (eZ E)), jC room fo, iC room le, iC room og, iC room ru, iC room sp, iC room sy, iC (2 ^ e) sa, cEx (rc_en (eN E)) (nI (eG E)) (nI (eT E + 1)) (nI (eO E)) (nI (eK E)) (nI (rc_sd (sp_fc (rN R)) (eY E) (eZ E))) (nI (here + 1)), cDu (nI (rN R)) (nI (sp_fc (rN R))) (nI (sp_cs f).length) uf uy, iC 4 us, iC 7 uc, iC 7 uo, cDv (nI (rN R)) (nI (sp_fc (rN R))) (nI base.length) vf vy, iC 4 (upd vs1 node (nI (rT R r))), iC 7 vc2, iC 7 vo] 0 0 := by
    intro l3 vc2 hb hl3
    refine x_Ex_makeStep_82 K hr c_Ex_send (by decide) ?_
    refine ⟨R, node, r, (sp_cs f).getD (recv - 1) 0 / 4 % 4, l3, _, _, _, _, _, _, _, _, _, _, _, _, _, bp, _, mn, mk, mw, vc2, base, rfl, rfl, rfl, rfl, rfl, rfl, rfl, rfl, rfl, by omega, hn, by omega, b4, a4, fun i hi => ⟨(a6 i hi).1, (a6 i hi).2, (b5 i hi).1⟩, hl3, hb, by rw [hbase]; exact hnc.2, fun vc3 hvc3 => ?_⟩
    have el : base.length + sp_gw R r (rC R r) = (sp_nc R f node r recv).length := by
      unfold sp_nc
      rw [List.length_append, sp_sn_len (by omega) hn, ← hbase]
    rw [hbase] at hvc3
    rw [el]
    refine x_Ex_makeStep_85 K hr c_Dr_settle (by decide) ?_
    refine ⟨rN R, _, _, upd vs1 node (nI (rT R r)), vc3, vo, sp_ns R f node r, sp_nc R f node r recv, rfl, rfl, rfl, rfl, rfl, rfl, hN4, hvs, hvc3, hnc.1, fun c h => (hvc c h).1, fun so' => ?_⟩
    rw [sp_ck_best hN1 hN4 hvc, sp_ck_cnt hN1 hN4 hvc]
    refine x_Ex_makeStep_92 K hr c_St_slotOf (by decide) ?_
    refine ⟨_, eZ E, room, e, eF E, sl, fo, sa, rfl, rfl, rfl, rfl, rfl, by have := hkey.1; omega, he3, he4, hz, by omega, fun k hk => ⟨(hS k hk).1, by have := (hE.2.1 k hk).1.1; omega⟩, hsa, hT, fun p hp1 hp2 => ?_⟩
    exact hlast p vc3 so' hp1 hp2
  have hvc1 : ar_is vc1 0 (sp_cs f) := ar_len hu3 (by omega) hv2
  rcases hrc with ⟨h0, hv0⟩ | ⟨h0, hle, hvn⟩
  · subst h0
    refine ⟨_, _, _, _, _, vc1, sp_cs f, rfl, rfl, rfl, rfl, hvc1, by omega, Or.inl ⟨by decide, ?_⟩⟩
    refine x_Ex_makeStep_57 K hr ⟨fun z => absurd (by decide) z, fun _ => ?_⟩
    have h9 := cont (-1) vc1 (by rw [hbase]; exact hvc1) (fun i hi hw0 => by have := (b5 i hi).2.2 hv0; omega)
    rw [hbase, if_pos rfl] at h9
    exact h9
  · obtain ⟨j, rfl⟩ : ∃ j, recv = j + 1 := ⟨recv - 1, by omega⟩
    rw [nI_pred]
    obtain ⟨hmem, hget⟩ := sp_getD_mem (l := sp_cs f) (i := j) (by omega)
    have hc96 := (hk.2.1 _ hmem)
    have huc : uc j = nI ((sp_cs f).getD j 0) := by
      have := hu3 j _ hget
      rwa [Nat.zero_add] at this
    refine ⟨_, _, _, _, _, vc1, sp_cs f, rfl, rfl, rfl, rfl, hvc1, by omega, Or.inr ⟨j, rfl, by omega, fun vc2 hvc2 => ?_⟩⟩
    refine x_Ex_makeStep_57 K hr ⟨fun _ => ⟨vp_in_nI (by omega) (by decide), ?_⟩, fun z => ?_⟩
    · rw [nI_clamp (by omega), huc, bt_s2b hc96.1]
      have h9 := cont (nI ((sp_cs f).getD j 0 / 4 % 4)) vc2 (by rw [hbase, if_neg (by omega)]; exact hvc2) (fun i hi hw0 => ⟨rfl, hc96.2.1⟩)
      have el : base.length = (sp_cs f).length - 1 := by
        rw [hbase, if_neg (by omega), List.length_eraseIdx, if_pos (by omega)]
      rw [el] at h9
      exact h9
    · have h1 := nI_toInt (n := j) (by omega)
      rw [z] at h1
      have h2 : ((-1 : Int32)).toInt = -1 := by decide
      omega

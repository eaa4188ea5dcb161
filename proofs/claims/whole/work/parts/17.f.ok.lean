/-! ===== the words of the class's throws ===== -/
theorem ax_own {ws : List Cond} (h : ws.all (fun w => (goodWord w && decide (w ∈ lw_tbl)) || decide (w ∈ ax_XT) || decide (w ∈ ax_H)) = true) : ∀ a ∈ ws, a ∈ am_T ∨ a ∈ ax_XT ∨ a ∈ ax_H := by
  intro a ha
  have := List.all_eq_true.mp h a ha
  simp only [Bool.or_eq_true, Bool.and_eq_true, decide_eq_true_eq] at this
  rcases this with (⟨h1, h2⟩ | h) | h
  · exact Or.inl (List.mem_filter.mpr ⟨h2, h1⟩)
  · exact Or.inr (Or.inl h)
  · exact Or.inr (Or.inr h)
theorem ax_mem {w : Cond} (h : (goodWord w && decide (w ∈ lw_tbl)) = true) : w ∈ am_T := by
  simp only [Bool.and_eq_true, decide_eq_true_eq] at h
  exact List.mem_filter.mpr ⟨h.2, h.1⟩
theorem ax_okU : ax_ok "StateExplore" ax_U 44 48 := ⟨ax_mem (by decide +kernel), ax_mem (by decide +kernel), ax_mem (by decide +kernel), ax_own (by decide +kernel), by decide +kernel⟩
theorem ax_okI : ax_ok "StateExplore" ax_I 63 67 := ⟨ax_mem (by decide +kernel), ax_mem (by decide +kernel), ax_mem (by decide +kernel), ax_own (by decide +kernel), by decide +kernel⟩
theorem ax_okO : ax_ok "StateExplore" ax_O 125 129 := ⟨ax_mem (by decide +kernel), ax_mem (by decide +kernel), ax_mem (by decide +kernel), ax_own (by decide +kernel), by decide +kernel⟩

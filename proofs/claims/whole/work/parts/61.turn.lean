/-! turn: both answer alike -/
theorem pm_turn {d : ya_D} {M : pm_M} (h : pm_I d M) : ∃ r d1 d2 M', f_X11_turn d = some (r, d1) ∧ f_X12_turn d1 = some (r, d2) ∧ pm_I d2 M' ∧ ((d2 = d ∧ M' = M) ∨ (M' = pm_tn M ∧ d2 = pv_t2 (ya_sI (pv_t1 d (20 * M 0 3)) 0 9 0) 100)) := by
  have hb := pm_b h.2.2
  unfold f_X11_turn
  rw [pm_isMarket1 h, Option.bind_some]
  by_cases e : M 0 1 = 0
  · rw [if_pos e, if_pos rfl]
    refine ⟨_, _, d, M, rfl, ?_, h, Or.inl ⟨rfl, rfl⟩⟩
    unfold f_X12_turn
    rw [pm_isMarket2 h.2, Option.bind_some, if_pos e, if_pos rfl]
  · have hj : pm_J (ya_sI (pv_t1 d (20 * M 0 3)) 0 9 0) M := ⟨pm_R_c h.2.1 (fun k => (pn_sIn (fun q => absurd q (by decide))).trans (pv_t1n (by decide))), h.2.2⟩
    rw [if_neg e, if_neg pn_10, pm_marked1 h, Option.bind_some, pv_turn1 hb.2.2.2.1 (pm_th1 h), Option.bind_some]
    refine ⟨_, _, _, pm_tn M, rfl, ?_, ⟨?_, ?_, ?_⟩, Or.inr ⟨rfl, rfl⟩⟩
    · unfold f_X12_turn
      rw [pm_isMarket2 hj, Option.bind_some, if_neg e, if_neg pn_10, pm_marked2 hj, Option.bind_some, pv_turn2]
    · refine pm_C_c (pm_C_turn h.2.2 h.1) (fun a k h1 h2 => ?_)
      have : a ≠ 84 := by omega
      simp only [pv_t2]
      rw [if_neg this]
      exact pn_sIn (by omega)
    · exact pm_R_turn h.2.2 hj.1
    · exact pm_W_turn h.2.2

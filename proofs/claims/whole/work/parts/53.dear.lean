/-! Prices read; dearer, marked otherwise -/
section
variable {d : ya_D} {M : pm_M}
theorem pm_pr (h : pm_W M) {x t : Nat} (hx : x < M 0 3) (ht : t < M 0 1) : M 2 (20 * x + t) ≤ 99 ∧ M 3 (20 * x + t) ≤ 99 ∧ M 4 (20 * x + t) ≤ 100 := h.2.2.2.2.2.2.2.2.2.1 x t hx ht
theorem pm_p1 (h : pm_I d M) {x t : Nat} (hx : x < M 0 3) (ht : t < M 0 1) : ya_rI d 27 100 (nI (20 * x + t)) = some (nI (M 2 (20 * x + t))) := by
  have hb := pm_b h.2.2
  rw [pn_rI (by omega) (by omega), (h.1.2.2.2.2.2.2.2.1 x t hx ht).1]
theorem pm_p2 (h : pm_J d M) {x t : Nat} (hx : x < M 0 3) (ht : t < M 0 1) : f_X12_priceOf (nI x) (nI t) d = some (nI (M 2 (20 * x + t))) := by
  have hb := pm_b h.2
  unfold f_X12_priceOf
  rw [pm_cell2, Option.bind_some, show (11 : Int32) = nI 11 from rfl, nI_add, pn_rI (by omega) (by omega), Option.bind_some]
  have := (h.1.2.2.2.2.2.2.2.1 x t hx ht).1
  rw [Nat.zero_add] at this
  rw [this]
theorem pm_o1 (h : pm_I d M) {x t : Nat} (hx : x < M 0 3) (ht : t < M 0 1) : ya_rI d 28 100 (nI (20 * x + t)) = some (nI (M 3 (20 * x + t))) := by
  have hb := pm_b h.2.2
  rw [pn_rI (by omega) (by omega), (h.1.2.2.2.2.2.2.2.1 x t hx ht).2.1]
theorem pm_mk1 (h : pm_I d M) {x t : Nat} (hx : x < M 0 3) (ht : t < M 0 1) : ya_rI d 29 100 (nI (20 * x + t)) = some (pm_m (M 4 (20 * x + t))) := by
  have hb := pm_b h.2.2
  rw [pn_rI (by omega) (by omega), (h.1.2.2.2.2.2.2.2.1 x t hx ht).2.2]
theorem pm_dy1 (h : pm_I d M) : d.1 24 1 = nI (M 0 1) := h.1.2.1
theorem pm_th1 (h : pm_I d M) : d.1 25 0 = nI (M 0 3) := h.1.2.2.2.1
theorem pm_dy2 (h : pm_J d M) : ya_rI d 84 468 0 = some (nI (M 0 1)) := (pn_rI (t := 0) (by omega) (by omega)).trans (congrArg some h.1.2.1)
theorem pm_th2 (h : pm_J d M) : ya_rI d 84 468 1 = some (nI (M 0 3)) := (pn_rI (t := 1) (by omega) (by omega)).trans (congrArg some h.1.2.2.2.1)
/-- place o + i of the world -/
theorem pm_at2 (d : ya_D) {o i : Nat} (h : o + i < 468) : ya_rI d 84 468 (nI o + nI i) = some (d.1 84 (o + i)) := by
  rw [nI_add, pn_rI h (by omega)]
theorem pm_dearer (h : pm_I d M) (v w : Int32) : ∃ r, f_X11_dearer v w d = some r ∧ f_X12_dearer v w d = some r := by
  have hb := pm_b h.2.2
  unfold f_X11_dearer f_X12_dearer ya_j0
  dsimp only
  rw [pm_isThing1 h, pm_isThing2 h.2, pm_isThing1 h, pm_isThing2 h.2, Option.bind_some, Option.bind_some, Option.bind_some, Option.bind_some]
  by_cases e : pn_ok v (M 0 3)
  · rw [if_pos e, if_neg pn_10, if_neg pn_10]
    by_cases e2 : pn_ok w (M 0 3)
    · rw [if_pos e2, if_neg pn_10, if_neg pn_10]
      by_cases e3 : v = w
      · rw [if_pos e3, if_pos e3]
        exact ⟨_, rfl, rfl⟩
      · rw [if_neg e3, if_neg e3]
        obtain ⟨x, hx, hx3, rfl⟩ := pn_ok_ex e
        obtain ⟨y, hy, hy3, rfl⟩ := pn_ok_ex e2
        refine ⟨nI (pn_sum (fun t => if M 2 (20 * x + t) ≤ M 2 (20 * y + t) then 0 else 1) (M 0 1)), ?_, ?_⟩
        · refine pn_lp (G := fun fu i => f_X11_dearer_L29 (nI x) (nI y) d fu (nI (pn_sum (fun t => if M 2 (20 * x + t) ≤ M 2 (20 * y + t) then 0 else 1) i)) (nI i)) (n := M 0 1) (fun fu => ?_) (fun fu i hi => ?_) ya_F 0 (by omega) (by unfold ya_F; omega)
          · show f_X11_dearer_L29 _ _ _ (fu + 1) _ _ = _
            rw [f_X11_dearer_L29, pm_dy1 h, if_pos (nI_le (Nat.le_refl _) (by omega))]
          · show f_X11_dearer_L29 _ _ _ (fu + 1) _ _ = _
            have p1 := pm_pr h.2.2 hx hi
            have p2 := pm_pr h.2.2 hy hi
            rw [f_X11_dearer_L29, pm_dy1 h, if_neg (nI_ge hi (by omega)), pm_cell1, pm_cell1, Option.bind_some, pm_p1 h hx hi, Option.bind_some, Option.bind_some, pm_p1 h hy hi, Option.bind_some, pn_sum]
            unfold ya_j1
            dsimp only
            by_cases c : M 2 (20 * x + i) ≤ M 2 (20 * y + i)
            · rw [if_pos c, if_pos (nI_le c (by omega)), nI_1]; rfl
            · rw [if_neg c, if_neg (nI_ge (by omega) (by omega)), nI_1, nI_1]
        · refine pn_lp (G := fun fu i => f_X12_dearer_L31 (nI x) (nI y) d fu (nI (pn_sum (fun t => if M 2 (20 * x + t) ≤ M 2 (20 * y + t) then 0 else 1) i)) (nI i)) (n := M 0 1) (fun fu => ?_) (fun fu i hi => ?_) ya_F 0 (by omega) (by unfold ya_F; omega)
          · show f_X12_dearer_L31 _ _ _ (fu + 1) _ _ = _
            rw [f_X12_dearer_L31, pm_dy2 h.2, Option.bind_some, if_pos (nI_le (Nat.le_refl _) (by omega))]
          · show f_X12_dearer_L31 _ _ _ (fu + 1) _ _ = _
            have p1 := pm_pr h.2.2 hx hi
            have p2 := pm_pr h.2.2 hy hi
            rw [f_X12_dearer_L31, pm_dy2 h.2, Option.bind_some, if_neg (nI_ge hi (by omega)), pm_p2 h.2 hx hi, Option.bind_some, pm_p2 h.2 hy hi, Option.bind_some, pn_sum]
            unfold ya_j1
            dsimp only
            by_cases c : M 2 (20 * x + i) ≤ M 2 (20 * y + i)
            · rw [if_pos c, if_pos (nI_le c (by omega)), nI_1, show (0 : Int32) = nI 0 from rfl, nI_add]
            · rw [if_neg c, if_neg (nI_ge (by omega) (by omega)), nI_1, nI_1]
    · rw [if_neg e2, if_pos rfl, if_pos rfl]
      exact ⟨_, rfl, rfl⟩
  · rw [if_neg e, if_pos rfl, if_pos rfl]
    exact ⟨_, rfl, rfl⟩
end

/-! Marks: how many cells are marked otherwise -/
theorem pm_m_none (v : Nat) (h : v ≤ 100) : pm_m v = -1 ↔ v = 0 := by
  cases v with
  | zero => exact ⟨fun _ => rfl, fun _ => rfl⟩
  | succ v => exact ⟨fun e => absurd e (pn_m1 (a := v) (by omega)), fun e => absurd e (by omega)⟩
theorem pm_m_is (v p : Nat) (h : v ≤ 100) (hp : p < 2 ^ 31) : pm_m v = nI p ↔ v = p + 1 := by
  cases v with
  | zero => exact ⟨fun e => absurd e.symm (pn_m1 hp), fun e => absurd e (by omega)⟩
  | succ v => exact (nI_eq (a := v) (by omega) hp).trans (by omega)
/-- 1 where a mark stands that is not the price -/
def pm_mo (M : pm_M) (x t : Nat) : Nat := if M 4 (20 * x + t) = 0 ∨ M 4 (20 * x + t) = M 2 (20 * x + t) + 1 then 0 else 1
section
variable {d : ya_D} {M : pm_M}
theorem pm_mo1 (h : pm_I d M) {x : Nat} (hx : x < M 0 3) (e : Int32 → Option Int32) (c : Nat) : f_X11_markedOtherwise_L20 (nI x) d e ya_F (nI c) (nI 0) = e (nI (c + pn_sum (pm_mo M x) (M 0 1))) := by
  have hb := pm_b h.2.2
  refine pn_lp (G := fun fu i => f_X11_markedOtherwise_L20 (nI x) d e fu (nI (c + pn_sum (pm_mo M x) i)) (nI i)) (n := M 0 1) (fun fu => ?_) (fun fu i hi => ?_) ya_F 0 (by omega) (by unfold ya_F; omega)
  · show f_X11_markedOtherwise_L20 _ _ _ (fu + 1) _ _ = _
    rw [f_X11_markedOtherwise_L20, pm_dy1 h, if_pos (nI_le (Nat.le_refl _) (by omega))]
  · show f_X11_markedOtherwise_L20 _ _ _ (fu + 1) _ _ = _
    have p1 := pm_pr h.2.2 hx hi
    rw [f_X11_markedOtherwise_L20, pm_dy1 h, if_neg (nI_ge hi (by omega)), pm_cell1, Option.bind_some, pm_mk1 h hx hi, Option.bind_some, pn_sum]
    unfold ya_j1 pm_mo
    dsimp only
    rw [Option.bind_some, pm_p1 h hx hi, Option.bind_some]
    by_cases c0 : M 4 (20 * x + i) = 0
    · rw [if_pos ((pm_m_none _ p1.2.2).mpr c0), if_pos (Or.inl c0), nI_1]; rfl
    · rw [if_neg (fun q => c0 ((pm_m_none _ p1.2.2).mp q))]
      by_cases c1 : M 4 (20 * x + i) = M 2 (20 * x + i) + 1
      · rw [if_pos ((pm_m_is _ (M 2 (20 * x + i)) p1.2.2 (by omega)).mpr c1), if_pos (Or.inr c1), nI_1]; rfl
      · rw [if_neg (fun q => c1 ((pm_m_is _ (M 2 (20 * x + i)) p1.2.2 (by omega)).mp q)), if_neg (show ¬ (M 4 (20 * x + i) = 0 ∨ M 4 (20 * x + i) = M 2 (20 * x + i) + 1) from fun q => q.elim c0 c1), nI_1, nI_1]; rfl
theorem pm_marked1 (h : pm_I d M) : f_X11_markedOtherwise d = some (nI (pn_sum (fun x => pn_sum (pm_mo M x) (M 0 1)) (M 0 3))) := by
  have hb := pm_b h.2.2
  unfold f_X11_markedOtherwise
  refine pn_lp (G := fun fu i => f_X11_markedOtherwise_L4 d fu (nI (pn_sum (fun x => pn_sum (pm_mo M x) (M 0 1)) i)) (nI i)) (n := M 0 3) (fun fu => ?_) (fun fu i hi => ?_) ya_F 0 (by omega) (by unfold ya_F; omega)
  · show f_X11_markedOtherwise_L4 _ (fu + 1) _ _ = _
    rw [f_X11_markedOtherwise_L4, pm_th1 h, if_pos (nI_le (Nat.le_refl _) (by omega))]
  · show f_X11_markedOtherwise_L4 _ (fu + 1) _ _ = _
    rw [f_X11_markedOtherwise_L4, pm_th1 h, if_neg (nI_ge hi (by omega)), show (0 : Int32) = nI 0 from rfl, pm_mo1 h hi, nI_1]
    rfl
theorem pm_isMarked (h : pm_J d M) {x t : Nat} (hx : x < M 0 3) (ht : t < M 0 1) : f_X12_isMarked (nI (20 * x + t)) d = some (nI (pm_mo M x t)) := by
  have hb := pm_b h.2
  have p1 := pm_pr h.2 hx ht
  have q := h.1.2.2.2.2.2.2.2.1 x t hx ht
  simp only [Nat.zero_add] at q
  unfold f_X12_isMarked ya_j0 pm_mo
  rw [show (211 : Int32) = nI 211 from rfl, show (11 : Int32) = nI 11 from rfl, pm_at2 d (by omega), pm_at2 d (by omega), Option.bind_some]
  dsimp only
  rw [Option.bind_some, Option.bind_some, q.2.2, q.1]
  by_cases c0 : M 4 (20 * x + t) = 0
  · rw [if_pos ((pm_m_none _ p1.2.2).mpr c0), if_pos (Or.inl c0)]; rfl
  · rw [if_neg (fun q => c0 ((pm_m_none _ p1.2.2).mp q))]
    by_cases c1 : M 4 (20 * x + t) = M 2 (20 * x + t) + 1
    · rw [if_pos ((pm_m_is _ (M 2 (20 * x + t)) p1.2.2 (by omega)).mpr c1), if_pos (Or.inr c1)]; rfl
    · rw [if_neg (fun q => c1 ((pm_m_is _ (M 2 (20 * x + t)) p1.2.2 (by omega)).mp q)), if_neg (show ¬ (M 4 (20 * x + t) = 0 ∨ M 4 (20 * x + t) = M 2 (20 * x + t) + 1) from fun q => q.elim c0 c1)]; rfl
theorem pm_mo2 (h : pm_J d M) {x : Nat} (hx : x < M 0 3) (e : Int32 → Option Int32) (c : Nat) : f_X12_markedMany_L16 (nI x) d e ya_F (nI c) (nI 0) = e (nI (c + pn_sum (pm_mo M x) (M 0 1))) := by
  have hb := pm_b h.2
  refine pn_lp (G := fun fu i => f_X12_markedMany_L16 (nI x) d e fu (nI (c + pn_sum (pm_mo M x) i)) (nI i)) (n := M 0 1) (fun fu => ?_) (fun fu i hi => ?_) ya_F 0 (by omega) (by unfold ya_F; omega)
  · show f_X12_markedMany_L16 _ _ _ (fu + 1) _ _ = _
    rw [f_X12_markedMany_L16, pm_dy2 h, Option.bind_some, if_pos (nI_le (Nat.le_refl _) (by omega))]
  · show f_X12_markedMany_L16 _ _ _ (fu + 1) _ _ = _
    rw [f_X12_markedMany_L16, pm_dy2 h, Option.bind_some, if_neg (nI_ge hi (by omega)), pm_cell2, Option.bind_some, pm_isMarked h hx hi, Option.bind_some, pn_sum]
    unfold ya_j1
    dsimp only
    have hm : pm_mo M x i = 0 ∨ pm_mo M x i = 1 := by
      unfold pm_mo
      by_cases c : M 4 (20 * x + i) = 0 ∨ M 4 (20 * x + i) = M 2 (20 * x + i) + 1
      · exact Or.inl (if_pos c)
      · exact Or.inr (if_neg c)
    rcases hm with hm | hm
    · rw [hm, if_pos (show nI 0 = (0 : Int32) from rfl), nI_1, show (0 : Int32) = nI 0 from rfl, nI_add]; rfl
    · rw [hm, if_neg (show ¬ nI 1 = (0 : Int32) from pn_10), nI_1, nI_1]; rfl
theorem pm_marked2 (h : pm_J d M) : f_X12_markedMany d = some (nI (pn_sum (fun x => pn_sum (pm_mo M x) (M 0 1)) (M 0 3))) := by
  have hb := pm_b h.2
  unfold f_X12_markedMany
  refine pn_lp (G := fun fu i => f_X12_markedMany_L4 d fu (nI (pn_sum (fun x => pn_sum (pm_mo M x) (M 0 1)) i)) (nI i)) (n := M 0 3) (fun fu => ?_) (fun fu i hi => ?_) ya_F 0 (by omega) (by unfold ya_F; omega)
  · show f_X12_markedMany_L4 _ (fu + 1) _ _ = _
    rw [f_X12_markedMany_L4, show (1 : Int32) = nI 1 from rfl, show ya_rI d 84 468 (nI 1) = some (nI (M 0 3)) from pm_th2 h, Option.bind_some, if_pos (nI_le (Nat.le_refl _) (by omega))]
  · show f_X12_markedMany_L4 _ (fu + 1) _ _ = _
    rw [f_X12_markedMany_L4, show ya_rI d 84 468 1 = some (nI (M 0 3)) from pm_th2 h, Option.bind_some, if_neg (nI_ge hi (by omega)), show (0 : Int32) = nI 0 from rfl, pm_mo2 h hi, nI_1]
    rfl
end

/-! turn: the reference's loop -/
/-- the memory after the reference's loop over the places below i -/
def pv_t2 (d : ya_D) (i : Nat) : ya_D := (fun a k => if a = 84 then (if 11 ≤ k ∧ k < 11 + i then (if d.1 84 (k + 200) = -1 then d.1 84 k else d.1 84 (k + 200)) else if 111 ≤ k ∧ k < 111 + i then d.1 84 (k - 100) else if 211 ≤ k ∧ k < 211 + i then -1 else d.1 84 k) else d.1 a k, d.2)
theorem pv_t2s (d : ya_D) (i : Nat) (hi : i < 100) : ya_sI (ya_sI (ya_sI (pv_t2 d i) 84 (11 + i) (if d.1 84 (211 + i) = -1 then d.1 84 (11 + i) else d.1 84 (211 + i))) 84 (111 + i) (d.1 84 (11 + i))) 84 (211 + i) (-1) = pv_t2 d (i + 1) := by
  refine Prod.ext (funext fun a => funext fun k => ?_) rfl
  simp only [pn_sI, pv_t2]
  by_cases ha : a = 84
  · subst ha
    by_cases e1 : k = 11 + i
    · subst e1
      rw [if_neg (show ¬ (84 = 84 ∧ 11 + i = 211 + i) by omega), if_neg (show ¬ (84 = 84 ∧ 11 + i = 111 + i) by omega), if_pos (show 84 = 84 ∧ 11 + i = 11 + i from ⟨rfl, rfl⟩), if_pos (show (84 : Nat) = 84 from rfl), if_pos (show 11 ≤ 11 + i ∧ 11 + i < 11 + (i + 1) by omega), show 11 + i + 200 = 211 + i by omega]
    · by_cases e2 : k = 111 + i
      · subst e2
        rw [if_neg (show ¬ (84 = 84 ∧ 111 + i = 211 + i) by omega), if_pos (show 84 = 84 ∧ 111 + i = 111 + i from ⟨rfl, rfl⟩), if_pos (show (84 : Nat) = 84 from rfl), if_neg (show ¬ (11 ≤ 111 + i ∧ 111 + i < 11 + (i + 1)) by omega), if_pos (show 111 ≤ 111 + i ∧ 111 + i < 111 + (i + 1) by omega), show 111 + i - 100 = 11 + i by omega]
      · by_cases e3 : k = 211 + i
        · subst e3
          rw [if_pos (show 84 = 84 ∧ 211 + i = 211 + i from ⟨rfl, rfl⟩), if_pos (show (84 : Nat) = 84 from rfl), if_neg (show ¬ (11 ≤ 211 + i ∧ 211 + i < 11 + (i + 1)) by omega), if_neg (show ¬ (111 ≤ 211 + i ∧ 211 + i < 111 + (i + 1)) by omega), if_pos (show 211 ≤ 211 + i ∧ 211 + i < 211 + (i + 1) by omega)]
        · have c1 : (11 ≤ k ∧ k < 11 + (i + 1)) ↔ (11 ≤ k ∧ k < 11 + i) := by omega
          have c2 : (111 ≤ k ∧ k < 111 + (i + 1)) ↔ (111 ≤ k ∧ k < 111 + i) := by omega
          have c3 : (211 ≤ k ∧ k < 211 + (i + 1)) ↔ (211 ≤ k ∧ k < 211 + i) := by omega
          simp only [c1, c2, c3]
          rw [if_neg (fun q => e3 q.2), if_neg (fun q => e2 q.2), if_neg (fun q => e1 q.2)]
  · rw [if_neg (fun q => ha q.1), if_neg (fun q => ha q.1), if_neg (fun q => ha q.1), if_neg ha, if_neg ha]
theorem pv_turn2 {d : ya_D} (c : Int32) : f_X12_turn_L17 c ya_F 0 d = some (c, pv_t2 d 100) := by
  have h0 : pv_t2 d 0 = d := by
    refine Prod.ext (funext fun a => funext fun k => ?_) rfl
    simp only [pv_t2]
    by_cases ha : a = 84
    · subst ha
      rw [if_pos (show (84 : Nat) = 84 from rfl), if_neg (show ¬ (11 ≤ k ∧ k < 11 + 0) by omega), if_neg (show ¬ (111 ≤ k ∧ k < 111 + 0) by omega), if_neg (show ¬ (211 ≤ k ∧ k < 211 + 0) by omega)]
    · rw [if_neg ha]
  have := pn_lp (G := fun fu i => f_X12_turn_L17 c fu (nI i) (pv_t2 d i)) (n := 100) (r := some (c, pv_t2 d 100)) (fun fu => ?_) (fun fu i hi => ?_) ya_F 0 (by omega) (by unfold ya_F; omega)
  · have q : f_X12_turn_L17 c ya_F (nI 0) (pv_t2 d 0) = some (c, pv_t2 d 100) := this
    rw [h0] at q
    exact q
  · show f_X12_turn_L17 c (fu + 1) _ _ = _
    rw [f_X12_turn_L17, if_pos (show (100 : Int32) ≤ nI 100 by decide)]
  · show f_X12_turn_L17 c (fu + 1) _ _ = _
    have r1 : (pv_t2 d i).1 84 (11 + i) = d.1 84 (11 + i) := by
      simp only [pv_t2]
      rw [if_pos trivial, if_neg (show ¬ (11 ≤ 11 + i ∧ 11 + i < 11 + i) by omega), if_neg (show ¬ (111 ≤ 11 + i ∧ 11 + i < 111 + i) by omega), if_neg (show ¬ (211 ≤ 11 + i ∧ 11 + i < 211 + i) by omega)]
    have r2 : (pv_t2 d i).1 84 (211 + i) = d.1 84 (211 + i) := by
      simp only [pv_t2]
      rw [if_pos trivial, if_neg (show ¬ (11 ≤ 211 + i ∧ 211 + i < 11 + i) by omega), if_neg (show ¬ (111 ≤ 211 + i ∧ 211 + i < 111 + i) by omega), if_neg (show ¬ (211 ≤ 211 + i ∧ 211 + i < 211 + i) by omega)]
    rw [f_X12_turn_L17, if_neg (show ¬ (100 : Int32) ≤ nI i from nI_ge (b := 100) hi (by decide)), show (11 : Int32) = nI 11 from rfl, show (211 : Int32) = nI 211 from rfl, show (111 : Int32) = nI 111 from rfl, pm_at2 _ (by omega), pm_at2 _ (by omega), Option.bind_some, Option.bind_some, r1, r2, ← pv_t2s d i hi]
    unfold ya_j1
    dsimp only
    rw [nI_add, nI_add, nI_add, nI_1]
    by_cases e : d.1 84 (211 + i) = -1
    · rw [if_pos e, if_pos e, pn_wI (by omega) (by omega), Option.bind_some, pn_wI (by omega) (by omega), Option.bind_some, pn_wI (by omega) (by omega), Option.bind_some]
    · rw [if_neg e, if_neg e, Option.bind_some, pn_wI (by omega) (by omega), Option.bind_some, pn_wI (by omega) (by omega), Option.bind_some, pn_wI (by omega) (by omega), Option.bind_some]

/-! turn: the class's loop -/
/-- the memory after the class's loop over the places below i -/
def pv_t1 (d : ya_D) (i : Nat) : ya_D := (fun a k => if k < i then (if a = 28 then d.1 27 k else if a = 27 then (if d.1 29 k = -1 then d.1 27 k else d.1 29 k) else if a = 29 then -1 else d.1 a k) else d.1 a k, d.2)
theorem pv_t1s (d : ya_D) (i : Nat) : ya_sI (ya_sI (ya_sI (pv_t1 d i) 28 i (d.1 27 i)) 27 i (if d.1 29 i = -1 then d.1 27 i else d.1 29 i)) 29 i (-1) = pv_t1 d (i + 1) := by
  refine Prod.ext (funext fun a => funext fun k => ?_) rfl
  simp only [pn_sI, pv_t1]
  by_cases e : k = i
  · subst e
    rw [if_pos (show k < k + 1 by omega), if_neg (show ¬ k < k by omega)]
    by_cases h1 : a = 29
    · subst h1; simp
    · by_cases h2 : a = 27
      · subst h2; simp
      · by_cases h3 : a = 28
        · subst h3; simp
        · simp [h1, h2, h3]
  · rw [if_neg (fun q => e q.2), if_neg (fun q => e q.2), if_neg (fun q => e q.2)]
    by_cases c : k < i
    · rw [if_pos c, if_pos (show k < i + 1 by omega)]
    · rw [if_neg c, if_neg (show ¬ k < i + 1 by omega)]
theorem pv_turn1 {d : ya_D} {n : Nat} (hn : n ≤ 5) (h : d.1 25 0 = nI n) : f_X8_turnYear 25 d = some (pv_t1 d (20 * n)) := by
  unfold f_X8_turnYear
  have h0 : pv_t1 d 0 = d := by
    refine Prod.ext (funext fun a => funext fun k => ?_) rfl
    simp only [pv_t1, Nat.not_lt_zero, if_false]
  have hr : ∀ i, (pv_t1 d i).1 25 0 = nI n := by
    intro i
    simp only [pv_t1]
    by_cases c : 0 < i
    · rw [if_pos c]; exact h
    · rw [if_neg c]; exact h
  have := pn_lp (G := fun fu i => f_X8_turnYear_L2 25 fu (nI i) (pv_t1 d i)) (n := 20 * n) (r := some (pv_t1 d (20 * n))) (fun fu => ?_) (fun fu i hi => ?_) ya_F 0 (by omega) (by unfold ya_F; omega)
  · have q : f_X8_turnYear_L2 25 ya_F (nI 0) (pv_t1 d 0) = some (pv_t1 d (20 * n)) := this
    rw [h0] at q
    exact q
  · show f_X8_turnYear_L2 25 (fu + 1) _ _ = _
    rw [f_X8_turnYear_L2, hr, show (20 : Int32) = nI 20 from rfl, pn_mul, if_pos (nI_le (by omega) (by omega))]
  · show f_X8_turnYear_L2 25 (fu + 1) _ _ = _
    have r27 : (pv_t1 d i).1 (25 + 2) i = d.1 27 i := if_neg (Nat.lt_irrefl i)
    have r29 : (pv_t1 d i).1 (25 + 4) i = d.1 29 i := if_neg (Nat.lt_irrefl i)
    rw [f_X8_turnYear_L2, hr, show (20 : Int32) = nI 20 from rfl, pn_mul, if_neg (nI_ge (by omega) (by omega)), pn_rI (by omega) (by omega), Option.bind_some, pn_wI (by omega) (by omega), Option.bind_some, pn_rI (by omega) (by omega), Option.bind_some, pn_sIn (by omega), r27, r29, ← pv_t1s]
    unfold ya_j1
    dsimp only
    by_cases c : d.1 29 i = -1
    · rw [if_pos c, if_pos c, pn_wI (by omega) (by omega), Option.bind_some, nI_1]
      refine congrArg (f_X8_turnYear_L2 25 fu (nI (i + 1))) ?_
      refine Prod.ext (funext fun a => funext fun k => ?_) rfl
      simp only [pn_sI]
      by_cases e : a = 27 ∧ k = i
      · obtain ⟨rfl, rfl⟩ := e
        have r : (pv_t1 d k).1 27 k = d.1 27 k := r27
        simp [r]
      · rw [if_neg e]
    · rw [if_neg c, if_neg c, Option.bind_some, pn_wI (by omega) (by omega), Option.bind_some, pn_wI (by omega) (by omega), Option.bind_some, nI_1]

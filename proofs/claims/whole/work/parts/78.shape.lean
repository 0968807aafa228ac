/-! leap, shape, like -/
/-- the first of the least f 0 .. f (n - 1) -/
def pn_an (f : Nat → Nat) : Nat → Nat
  | 0 => 0
  | n + 1 => if f (pn_an f n) ≤ f n then pn_an f n else n
theorem pn_an_lt' {f : Nat → Nat} {n : Nat} : ∀ i, i < n → pn_an f i < n
  | 0, h => h
  | i + 1, h => by
    rw [pn_an]
    have := pn_an_lt' (f := f) (n := n) i (by omega)
    split <;> omega
/-- days in a row at one price, the most of them -/
def pv_rl (P : Nat → Nat) : Nat → Nat
  | 0 => 0
  | i + 1 => if i ≠ 0 ∧ P i = P (i - 1) then pv_rl P i + 1 else 1
def pv_lg (P : Nat → Nat) : Nat → Nat
  | 0 => 0
  | i + 1 => max (pv_lg P i) (pv_rl P (i + 1))
def pv_ch (P : Nat → Nat) (n : Nat) : Nat := pn_sum (fun t => if t ≠ 0 ∧ P t = P (t - 1) then 0 else if t = 0 then 0 else 1) n
theorem pv_rl_le {P : Nat → Nat} : ∀ i, pv_rl P i ≤ i
  | 0 => Nat.le_refl _
  | i + 1 => by
    rw [pv_rl]
    have := pv_rl_le (P := P) i
    split <;> omega
theorem pv_lg_le {P : Nat → Nat} : ∀ i, pv_lg P i ≤ i
  | 0 => Nat.le_refl _
  | i + 1 => by
    rw [pv_lg]
    have h1 := pv_lg_le (P := P) i
    have h2 := pv_rl_le (P := P) (i + 1)
    omega
section
variable {d e : ya_D} {M M' : pm_M}
theorem pz_leap (hI : pm_I d M) (v w u : Int32) : ∃ r, f_X11_leap v w u d = some r ∧ f_X12_leap v w u d = some r := by
  have hb := pm_b hI.2.2
  by_cases e1 : pn_ok v (M 0 3) ∧ pn_ok w (M 0 1)
  · obtain ⟨x, hx, hx3, rfl⟩ := pn_ok_ex e1.1
    obtain ⟨t, ht, ht3, rfl⟩ := pn_ok_ex e1.2
    have hc := (pk_c hI.1).2.1
    have hlt : (t + 1) % M 0 1 < M 0 1 := Nat.mod_lt _ (by omega)
    have f1 : f_X11_leap (nI x) (nI t) u d = if u = 0 then some (nI (M 2 (20 * x + t))) else if u = 1 then some (nI (M 2 (20 * x + (t + 1) % M 0 1))) else if u = 2 then some ((nI (M 2 (20 * x + t)) + nI (M 2 (20 * x + (t + 1) % M 0 1))) / 2) else some (-2) := by
      unfold f_X11_leap
      rw [pm_areSo1 hI, Option.bind_some, if_pos e1, if_neg pn_10, pm_cell1, pb_s, pm_p1 hI hx ht, pb_s, pj_1, hc]
      by_cases c : M 0 1 ≤ t + 1
      · have h0 : (t + 1) % M 0 1 = 0 := by rw [show t + 1 = M 0 1 by omega, Nat.mod_self]
        rw [nI_1, if_pos (nI_le c (by omega)), h0]
        show (f_X11_cell (nI x) (nI 0)).bind _ = _
        rw [pm_cell1, pb_s, pm_p1 hI hx (by omega), pb_s]
      · have h0 : (t + 1) % M 0 1 = t + 1 := Nat.mod_eq_of_lt (by omega)
        rw [nI_1, if_neg (nI_ge (by omega) (by omega)), h0]
        show (f_X11_cell (nI x) (nI (t + 1))).bind _ = _
        rw [pm_cell1, pb_s, pm_p1 hI hx (by omega), pb_s]
    by_cases e2 : pn_ok u 3
    · have f2 : f_X12_leap (nI x) (nI t) u d = if u = 0 then some (nI (M 2 (20 * x + t))) else if u = 1 then some (nI (M 2 (20 * x + (t + 1) % M 0 1))) else some ((nI (M 2 (20 * x + t)) + nI (M 2 (20 * x + (t + 1) % M 0 1))) / 2) := by
        unfold f_X12_leap ya_rm
        rw [pm_areSo2 hI.2, Option.bind_some, pj_0, if_pos e1, if_neg pn_10, pn_inN _ 3 2 (by decide), Option.bind_some, if_pos e2, if_neg pn_10, pm_p2 hI.2 hx ht, pb_s, pm_dy2 hI.2, pb_s, if_neg (nI_ne0 (by omega) (by omega)), pb_s, nI_1, pk_rem (by omega) (by omega) (by omega), pm_p2 hI.2 hx hlt, pb_s]
      rw [f1, f2]
      obtain ⟨j, hj, rfl⟩ := pn_ok_e e2
      rcases (show j = 0 ∨ j = 1 ∨ j = 2 by omega) with rfl | rfl | rfl
      all_goals exact ⟨_, rfl, rfl⟩
    · refine ⟨-2, ?_, ?_⟩
      · rw [f1, if_neg (fun q => e2 (by rw [q]; decide)), if_neg (fun q => e2 (by rw [q]; decide)), if_neg (fun q => e2 (by rw [q]; decide))]
      · unfold f_X12_leap
        rw [pm_areSo2 hI.2, Option.bind_some, pj_0, if_pos e1, if_neg pn_10, pn_inN _ 3 2 (by decide), Option.bind_some, if_neg e2, if_pos rfl]
  · refine ⟨-2, ?_, ?_⟩
    · unfold f_X11_leap
      rw [pm_areSo1 hI, Option.bind_some, if_neg e1, if_pos rfl]
    · unfold f_X12_leap
      rw [pm_areSo2 hI.2, Option.bind_some, pj_0, if_neg e1, if_pos rfl]
theorem pz_same (hI : pm_I d M) {x i : Nat} (hx : x < M 0 3) (hi : i < M 0 1) : f_X11_sameAsAhead (nI x) (nI i) d = some (if i ≠ 0 ∧ M 2 (20 * x + i) = M 2 (20 * x + (i - 1)) then 1 else 0) := by
  have hb := pm_b hI.2.2
  unfold f_X11_sameAsAhead
  rw [pj_0]
  by_cases c0 : i = 0
  · rw [c0, if_pos (by decide), if_neg (by omega)]
  · have p1 := pm_pr hI.2.2 hx hi
    have p2 := pm_pr hI.2.2 hx (show i - 1 < M 0 1 by omega)
    rw [if_neg (nI_nle (by omega) (by omega)), pm_cell1, pb_s, pm_p1 hI hx hi, pb_s, pl_1, pn_sub (by omega), pm_cell1, pb_s, pm_p1 hI hx (by omega), pb_s]
    by_cases c : M 2 (20 * x + i) = M 2 (20 * x + (i - 1))
    · rw [if_pos (by rw [c]), if_pos ⟨c0, c⟩]
    · rw [if_neg (fun q => c ((nI_eq (by omega) (by omega)).mp q)), if_neg (fun q => c q.2)]
theorem pz_shape1 (hI : pm_I d M) {x : Nat} (hx : x < M 0 3) : f_X11_dearestDay (nI x) d = some (nI (pn_am (fun t => M 2 (20 * x + t)) (M 0 1))) ∧ f_X11_cheapestDay (nI x) d = some (nI (pn_an (fun t => M 2 (20 * x + t)) (M 0 1))) ∧ f_X11_priceChanges (nI x) d = some (nI (pv_ch (fun t => M 2 (20 * x + t)) (M 0 1))) ∧ f_X11_longestAtOnePrice (nI x) d = some (nI (pv_lg (fun t => M 2 (20 * x + t)) (M 0 1))) := by
  have hb := pm_b hI.2.2
  have hc := (pk_c hI.1).2.1
  have hn : 0 < M 0 1 := by omega
  refine ⟨?_, ?_, ?_, ?_⟩
  · have h1 : pn_am (fun t => M 2 (20 * x + t)) 1 = 0 := by rw [pn_am, pn_am, if_pos (Nat.le_refl _)]
    unfold f_X11_dearestDay
    have key := pn_lp (G := fun fu i => f_X11_dearestDay_L4 (nI x) d fu (nI (pn_am (fun t => M 2 (20 * x + t)) i)) (nI i)) (n := M 0 1) (r := some (nI (pn_am (fun t => M 2 (20 * x + t)) (M 0 1)))) (fun fu => ?_) (fun fu i hi => ?_) ya_F 1 (by omega) (by unfold ya_F; omega)
    · simp only [h1] at key
      rw [pl_0, pl_1]; exact key
    · show f_X11_dearestDay_L4 _ _ (fu + 1) _ _ = _
      rw [f_X11_dearestDay_L4, hc, if_pos (nI_le (Nat.le_refl _) (by omega))]
    · show f_X11_dearestDay_L4 _ _ (fu + 1) _ _ = f_X11_dearestDay_L4 _ _ fu _ _
      have hlt := pn_am_lt' (f := fun t => M 2 (20 * x + t)) hi
      have p1 := pm_pr hI.2.2 hx hi
      have p2 := pm_pr hI.2.2 hx hlt
      rw [f_X11_dearestDay_L4, hc, if_neg (nI_ge hi (by omega)), pm_cell1, pb_s, pm_p1 hI hx hi, pb_s, pm_cell1, pb_s, pm_p1 hI hx hlt, pb_s, pj_1, pn_am]
      by_cases c : M 2 (20 * x + i) ≤ M 2 (20 * x + pn_am (fun t => M 2 (20 * x + t)) i)
      · rw [if_pos c, if_pos (nI_le c (by omega)), nI_1]
      · rw [if_neg c, if_neg (nI_ge (by omega) (by omega)), nI_1]
  · have h1 : pn_an (fun t => M 2 (20 * x + t)) 1 = 0 := by rw [pn_an, pn_an, if_pos (Nat.le_refl _)]
    unfold f_X11_cheapestDay
    have key := pn_lp (G := fun fu i => f_X11_cheapestDay_L4 (nI x) d fu (nI (pn_an (fun t => M 2 (20 * x + t)) i)) (nI i)) (n := M 0 1) (r := some (nI (pn_an (fun t => M 2 (20 * x + t)) (M 0 1)))) (fun fu => ?_) (fun fu i hi => ?_) ya_F 1 (by omega) (by unfold ya_F; omega)
    · simp only [h1] at key
      rw [pl_0, pl_1]; exact key
    · show f_X11_cheapestDay_L4 _ _ (fu + 1) _ _ = _
      rw [f_X11_cheapestDay_L4, hc, if_pos (nI_le (Nat.le_refl _) (by omega))]
    · show f_X11_cheapestDay_L4 _ _ (fu + 1) _ _ = f_X11_cheapestDay_L4 _ _ fu _ _
      have hlt := pn_an_lt' (f := fun t => M 2 (20 * x + t)) i hi
      have p1 := pm_pr hI.2.2 hx hi
      have p2 := pm_pr hI.2.2 hx hlt
      rw [f_X11_cheapestDay_L4, hc, if_neg (nI_ge hi (by omega)), pm_cell1, pb_s, pm_p1 hI hx hi, pb_s, pm_cell1, pb_s, pm_p1 hI hx hlt, pb_s, pj_1, pn_an]
      by_cases c : M 2 (20 * x + pn_an (fun t => M 2 (20 * x + t)) i) ≤ M 2 (20 * x + i)
      · rw [if_pos c, if_pos (nI_le c (by omega)), nI_1]
      · rw [if_neg c, if_neg (nI_ge (by omega) (by omega)), nI_1]
  · unfold f_X11_priceChanges
    have h1 : pv_ch (fun t => M 2 (20 * x + t)) 1 = 0 := rfl
    have key := pn_lp (G := fun fu i => f_X11_priceChanges_L4 (nI x) d fu (nI (pv_ch (fun t => M 2 (20 * x + t)) (i + 1))) (nI (i + 1))) (n := M 0 1 - 1) (r := some (nI (pv_ch (fun t => M 2 (20 * x + t)) (M 0 1)))) (fun fu => ?_) (fun fu i hi => ?_) ya_F 0 (by omega) (by unfold ya_F; omega)
    · exact key
    · show f_X11_priceChanges_L4 _ _ (fu + 1) _ _ = _
      rw [f_X11_priceChanges_L4, hc, show M 0 1 - 1 + 1 = M 0 1 by omega, if_pos (nI_le (Nat.le_refl _) (by omega))]
    · show f_X11_priceChanges_L4 _ _ (fu + 1) _ _ = f_X11_priceChanges_L4 _ _ fu _ _
      have e1 : pv_ch (fun t => M 2 (20 * x + t)) (i + 1 + 1) = pv_ch (fun t => M 2 (20 * x + t)) (i + 1) + if i + 1 ≠ 0 ∧ M 2 (20 * x + (i + 1)) = M 2 (20 * x + (i + 1 - 1)) then 0 else if i + 1 = 0 then 0 else 1 := rfl
      rw [f_X11_priceChanges_L4, hc, if_neg (nI_ge (by omega) (by omega)), pz_same hI hx (by omega), pb_s, pj_1, e1]
      by_cases c : i + 1 ≠ 0 ∧ M 2 (20 * x + (i + 1)) = M 2 (20 * x + (i + 1 - 1))
      · rw [if_pos c, if_pos c, if_neg pn_10, nI_1]
        rfl
      · rw [if_neg c, if_neg c, if_pos rfl, if_neg (by omega), nI_1, nI_1]
  · unfold f_X11_longestAtOnePrice
    refine pn_lp (G := fun fu i => f_X11_longestAtOnePrice_L7 (nI x) d fu (nI (pv_lg (fun t => M 2 (20 * x + t)) i)) (nI (pv_rl (fun t => M 2 (20 * x + t)) i)) (nI i)) (n := M 0 1) (fun fu => ?_) (fun fu i hi => ?_) ya_F 0 (by omega) (by unfold ya_F; omega)
    · show f_X11_longestAtOnePrice_L7 _ _ (fu + 1) _ _ _ = _
      rw [f_X11_longestAtOnePrice_L7, hc, if_pos (nI_le (Nat.le_refl _) (by omega))]
    · show f_X11_longestAtOnePrice_L7 _ _ (fu + 1) _ _ _ = f_X11_longestAtOnePrice_L7 _ _ fu _ _ _
      have g1 := pv_lg_le (P := fun t => M 2 (20 * x + t)) i
      have g2 := pv_rl_le (P := fun t => M 2 (20 * x + t)) i
      rw [f_X11_longestAtOnePrice_L7, hc, if_neg (nI_ge hi (by omega)), pz_same hI hx hi, pb_s, pj_1, pv_lg, pv_rl]
      by_cases c : i ≠ 0 ∧ M 2 (20 * x + i) = M 2 (20 * x + (i - 1))
      · rw [if_pos c, if_pos c, if_neg pn_10]
        simp (disch := omega) only [nI_1, pm_max]
      · rw [if_neg c, if_neg c, if_pos rfl]
        simp (disch := omega) only [nI_1, pl_1, pm_max]
        rw [nI_add]
theorem pz_shape2 (hJ : pm_J e M) {x : Nat} (hx : x < M 0 3) (w : Int32) (k : Int32 → Int32 → Int32 → Int32 → Option Int32) : f_X12_shape_L41 (nI x) w e k ya_F (nI 0) (nI 0) (nI 0) (nI 1) (nI 1) (nI 1) = k (nI (pn_am (fun t => M 2 (20 * x + t)) (M 0 1))) (nI (pn_an (fun t => M 2 (20 * x + t)) (M 0 1))) (nI (pv_ch (fun t => M 2 (20 * x + t)) (M 0 1))) (nI (pv_lg (fun t => M 2 (20 * x + t)) (M 0 1))) := by
  have hb := pm_b hJ.2
  have hn : 0 < M 0 1 := by omega
  have h1 : pn_am (fun t => M 2 (20 * x + t)) (0 + 1) = 0 := by rw [pn_am, pn_am, if_pos (Nat.le_refl _)]
  have h2 : pn_an (fun t => M 2 (20 * x + t)) (0 + 1) = 0 := by rw [pn_an, pn_an, if_pos (Nat.le_refl _)]
  have h3 : pv_ch (fun t => M 2 (20 * x + t)) (0 + 1) = 0 := rfl
  have h4 : pv_rl (fun t => M 2 (20 * x + t)) (0 + 1) = 1 := by rw [pv_rl, if_neg (by omega)]
  have h5 : pv_lg (fun t => M 2 (20 * x + t)) (0 + 1) = 1 := by rw [pv_lg, pv_lg, h4]; rfl
  have key := pn_lp (G := fun fu i => f_X12_shape_L41 (nI x) w e k fu (nI (pn_am (fun t => M 2 (20 * x + t)) (i + 1))) (nI (pn_an (fun t => M 2 (20 * x + t)) (i + 1))) (nI (pv_ch (fun t => M 2 (20 * x + t)) (i + 1))) (nI (pv_rl (fun t => M 2 (20 * x + t)) (i + 1))) (nI (pv_lg (fun t => M 2 (20 * x + t)) (i + 1))) (nI (i + 1))) (n := M 0 1 - 1) (r := k (nI (pn_am (fun t => M 2 (20 * x + t)) (M 0 1))) (nI (pn_an (fun t => M 2 (20 * x + t)) (M 0 1))) (nI (pv_ch (fun t => M 2 (20 * x + t)) (M 0 1))) (nI (pv_lg (fun t => M 2 (20 * x + t)) (M 0 1)))) (fun fu => ?_) (fun fu i hi => ?_) ya_F 0 (by omega) (by unfold ya_F; omega)
  · simp only [h1, h2, h3, h4, h5] at key
    exact key
  · show f_X12_shape_L41 _ _ _ _ (fu + 1) _ _ _ _ _ _ = _
    rw [f_X12_shape_L41, pm_dy2 hJ, pb_s, show M 0 1 - 1 + 1 = M 0 1 by omega, if_pos (nI_le (Nat.le_refl _) (by omega))]
  · show f_X12_shape_L41 _ _ _ _ (fu + 1) _ _ _ _ _ _ = f_X12_shape_L41 _ _ _ _ fu _ _ _ _ _ _
    have hi1 : i + 1 < M 0 1 := by omega
    have l1 := pn_am_lt' (f := fun t => M 2 (20 * x + t)) hi1
    have l2 := pn_an_lt' (f := fun t => M 2 (20 * x + t)) (i + 1) hi1
    have p0 := pm_pr hJ.2 hx hi1
    have p1 := pm_pr hJ.2 hx l1
    have p2 := pm_pr hJ.2 hx l2
    have p3 := pm_pr hJ.2 hx (show i < M 0 1 by omega)
    have g1 := pv_lg_le (P := fun t => M 2 (20 * x + t)) (i + 1)
    have g2 := pv_rl_le (P := fun t => M 2 (20 * x + t)) (i + 1)
    have e1 : pv_ch (fun t => M 2 (20 * x + t)) (i + 1 + 1) = pv_ch (fun t => M 2 (20 * x + t)) (i + 1) + if i + 1 ≠ 0 ∧ M 2 (20 * x + (i + 1)) = M 2 (20 * x + (i + 1 - 1)) then 0 else if i + 1 = 0 then 0 else 1 := rfl
    have e2 : pv_rl (fun t => M 2 (20 * x + t)) (i + 1 + 1) = if i + 1 ≠ 0 ∧ M 2 (20 * x + (i + 1)) = M 2 (20 * x + (i + 1 - 1)) then pv_rl (fun t => M 2 (20 * x + t)) (i + 1) + 1 else 1 := rfl
    have e3 : pv_lg (fun t => M 2 (20 * x + t)) (i + 1 + 1) = max (pv_lg (fun t => M 2 (20 * x + t)) (i + 1)) (pv_rl (fun t => M 2 (20 * x + t)) (i + 1 + 1)) := rfl
    have e4 : pn_am (fun t => M 2 (20 * x + t)) (i + 1 + 1) = if M 2 (20 * x + (i + 1)) ≤ M 2 (20 * x + pn_am (fun t => M 2 (20 * x + t)) (i + 1)) then pn_am (fun t => M 2 (20 * x + t)) (i + 1) else i + 1 := rfl
    have e5 : pn_an (fun t => M 2 (20 * x + t)) (i + 1 + 1) = if M 2 (20 * x + pn_an (fun t => M 2 (20 * x + t)) (i + 1)) ≤ M 2 (20 * x + (i + 1)) then pn_an (fun t => M 2 (20 * x + t)) (i + 1) else i + 1 := rfl
    rw [e3, e2, e1, e4, e5]
    generalize pn_am (fun t => M 2 (20 * x + t)) (i + 1) = A at *
    generalize pn_an (fun t => M 2 (20 * x + t)) (i + 1) = B at *
    generalize pv_ch (fun t => M 2 (20 * x + t)) (i + 1) = C at *
    generalize pv_rl (fun t => M 2 (20 * x + t)) (i + 1) = R at *
    generalize pv_lg (fun t => M 2 (20 * x + t)) (i + 1) = L at *
    rw [f_X12_shape_L41, pm_dy2 hJ, pb_s, if_neg (nI_ge hi1 (by omega)), pm_p2 hJ hx hi1, pm_p2 hJ hx l1, pm_p2 hJ hx l2, show nI (i + 1) - 1 = nI i from nI_pred i, pm_p2 hJ hx (show i < M 0 1 by omega)]
    simp only [pb_s, pj_1]
    by_cases c1 : M 2 (20 * x + (i + 1)) ≤ M 2 (20 * x + A)
    · rw [if_pos c1, if_pos (nI_le c1 (by omega))]
      by_cases c2 : M 2 (20 * x + B) ≤ M 2 (20 * x + (i + 1))
      · rw [if_pos c2, if_pos (nI_le c2 (by omega))]
        by_cases c3 : i + 1 ≠ 0 ∧ M 2 (20 * x + (i + 1)) = M 2 (20 * x + (i + 1 - 1))
        · rw [if_pos c3, if_pos c3, if_pos (show nI (M 2 (20 * x + (i + 1))) = nI (M 2 (20 * x + i)) from congrArg nI c3.2), if_neg pn_10, if_neg pn_10, nI_1, nI_1, pm_max (by omega) (by omega), pl_0, nI_add]
        · rw [if_neg c3, if_neg c3, if_neg (show ¬ nI (M 2 (20 * x + (i + 1))) = nI (M 2 (20 * x + i)) from fun q => c3 ⟨by omega, (nI_eq (a := M 2 (20 * x + (i + 1))) (b := M 2 (20 * x + i)) (by omega) (by omega)).mp q⟩), if_pos trivial, if_pos trivial, nI_1, nI_1, pl_1, pm_max (by omega) (by omega), if_neg (show ¬ i + 1 = 0 by omega)]
      · rw [if_neg c2, if_neg (nI_ge (Nat.lt_of_not_le c2) (by omega))]
        by_cases c3 : i + 1 ≠ 0 ∧ M 2 (20 * x + (i + 1)) = M 2 (20 * x + (i + 1 - 1))
        · rw [if_pos c3, if_pos c3, if_pos (show nI (M 2 (20 * x + (i + 1))) = nI (M 2 (20 * x + i)) from congrArg nI c3.2), if_neg pn_10, if_neg pn_10, nI_1, nI_1, pm_max (by omega) (by omega), pl_0, nI_add]
        · rw [if_neg c3, if_neg c3, if_neg (show ¬ nI (M 2 (20 * x + (i + 1))) = nI (M 2 (20 * x + i)) from fun q => c3 ⟨by omega, (nI_eq (a := M 2 (20 * x + (i + 1))) (b := M 2 (20 * x + i)) (by omega) (by omega)).mp q⟩), if_pos trivial, if_pos trivial, nI_1, nI_1, pl_1, pm_max (by omega) (by omega), if_neg (show ¬ i + 1 = 0 by omega)]
    · rw [if_neg c1, if_neg (nI_ge (Nat.lt_of_not_le c1) (by omega))]
      by_cases c2 : M 2 (20 * x + B) ≤ M 2 (20 * x + (i + 1))
      · rw [if_pos c2, if_pos (nI_le c2 (by omega))]
        by_cases c3 : i + 1 ≠ 0 ∧ M 2 (20 * x + (i + 1)) = M 2 (20 * x + (i + 1 - 1))
        · rw [if_pos c3, if_pos c3, if_pos (show nI (M 2 (20 * x + (i + 1))) = nI (M 2 (20 * x + i)) from congrArg nI c3.2), if_neg pn_10, if_neg pn_10, nI_1, nI_1, pm_max (by omega) (by omega), pl_0, nI_add]
        · rw [if_neg c3, if_neg c3, if_neg (show ¬ nI (M 2 (20 * x + (i + 1))) = nI (M 2 (20 * x + i)) from fun q => c3 ⟨by omega, (nI_eq (a := M 2 (20 * x + (i + 1))) (b := M 2 (20 * x + i)) (by omega) (by omega)).mp q⟩), if_pos trivial, if_pos trivial, nI_1, nI_1, pl_1, pm_max (by omega) (by omega), if_neg (show ¬ i + 1 = 0 by omega)]
      · rw [if_neg c2, if_neg (nI_ge (Nat.lt_of_not_le c2) (by omega))]
        by_cases c3 : i + 1 ≠ 0 ∧ M 2 (20 * x + (i + 1)) = M 2 (20 * x + (i + 1 - 1))
        · rw [if_pos c3, if_pos c3, if_pos (show nI (M 2 (20 * x + (i + 1))) = nI (M 2 (20 * x + i)) from congrArg nI c3.2), if_neg pn_10, if_neg pn_10, nI_1, nI_1, pm_max (by omega) (by omega), pl_0, nI_add]
        · rw [if_neg c3, if_neg c3, if_neg (show ¬ nI (M 2 (20 * x + (i + 1))) = nI (M 2 (20 * x + i)) from fun q => c3 ⟨by omega, (nI_eq (a := M 2 (20 * x + (i + 1))) (b := M 2 (20 * x + i)) (by omega) (by omega)).mp q⟩), if_pos trivial, if_pos trivial, nI_1, nI_1, pl_1, pm_max (by omega) (by omega), if_neg (show ¬ i + 1 = 0 by omega)]
theorem pz_shape (hI : pm_I d M) (v w : Int32) : ∃ r, f_X11_shape v w d = some r ∧ f_X12_shape v w d = some r := by
  have hb := pm_b hI.2.2
  by_cases e1 : pn_ok v (M 0 3)
  · obtain ⟨x, hx, hx3, rfl⟩ := pn_ok_ex e1
    obtain ⟨s1, s2, s3, s4⟩ := pz_shape1 hI hx
    have f1 : f_X11_shape (nI x) w d = if w = 0 then some (nI (pn_am (fun t => M 2 (20 * x + t)) (M 0 1))) else if w = 1 then some (nI (pn_an (fun t => M 2 (20 * x + t)) (M 0 1))) else if w = 2 then some (nI (pv_ch (fun t => M 2 (20 * x + t)) (M 0 1))) else if w = 3 then some (nI (pv_lg (fun t => M 2 (20 * x + t)) (M 0 1))) else some (-2) := by
      unfold f_X11_shape
      rw [pm_isThing1 hI, Option.bind_some, if_pos e1, if_neg pn_10, s1, s2, s3, s4]
      simp only [pb_s]
    by_cases e2 : pn_ok w 4
    · have f2 : f_X12_shape (nI x) w d = if w = 0 then some (nI (pn_am (fun t => M 2 (20 * x + t)) (M 0 1))) else if w = 1 then some (nI (pn_an (fun t => M 2 (20 * x + t)) (M 0 1))) else if w = 2 then some (nI (pv_ch (fun t => M 2 (20 * x + t)) (M 0 1))) else some (nI (pv_lg (fun t => M 2 (20 * x + t)) (M 0 1))) := by
        unfold f_X12_shape
        rw [pm_isThing2 hI.2, Option.bind_some, pj_0, if_pos e1, if_neg pn_10, pn_inN _ 4 3 (by decide), Option.bind_some, if_pos e2, if_neg pn_10]
        exact pz_shape2 hI.2 hx w _
      rw [f1, f2]
      obtain ⟨j, hj, rfl⟩ := pn_ok_e e2
      rcases (show j = 0 ∨ j = 1 ∨ j = 2 ∨ j = 3 by omega) with rfl | rfl | rfl | rfl
      all_goals exact ⟨_, rfl, rfl⟩
    · refine ⟨-2, ?_, ?_⟩
      · rw [f1, if_neg (fun q => e2 (by rw [q]; decide)), if_neg (fun q => e2 (by rw [q]; decide)), if_neg (fun q => e2 (by rw [q]; decide)), if_neg (fun q => e2 (by rw [q]; decide))]
      · unfold f_X12_shape
        rw [pm_isThing2 hI.2, Option.bind_some, pj_0, if_pos e1, if_neg pn_10, pn_inN _ 4 3 (by decide), Option.bind_some, if_neg e2, if_pos rfl]
  · refine ⟨-2, ?_, ?_⟩
    · unfold f_X11_shape
      rw [pm_isThing1 hI, Option.bind_some, if_neg e1, if_pos rfl]
    · unfold f_X12_shape
      rw [pm_isThing2 hI.2, Option.bind_some, pj_0, if_neg e1, if_pos rfl]
end

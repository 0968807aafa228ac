/-! The year is known: what stands for it, and the answers that are read off it -/
theorem nI_toInt0 : (0 : Int32).toInt = 0 := by decide
theorem pn_inN (v : Int32) (n : Nat) (L : Int64) (hL : L.toInt = (n : Int) - 1) : f_X12_in v.toInt64 0 L = some (if pn_ok v n then 1 else 0) := by
  have e0 : (v.toInt64 < 0) = (v.toInt < 0) := propext (Int64.lt_iff_toInt_lt.trans (by rw [pn_i64, show (0 : Int64).toInt = 0 from by decide]))
  have e1 : (L < v.toInt64) = ((n : Int) ≤ v.toInt) := propext (Int64.lt_iff_toInt_lt.trans (by rw [pn_i64, hL]; omega))
  simp only [f_X12_in, ya_j0, e0, e1, pn_ok]
  by_cases h0 : v.toInt < 0
  · rw [if_pos h0, if_neg (by omega)]
  · rw [if_neg h0]
    by_cases h1 : (n : Int) ≤ v.toInt
    · rw [if_pos h1, if_neg (by omega)]
    · rw [if_neg h1, if_pos (by omega)]
theorem pn_wN (v : Int32) (n : Nat) (U : Int32) (hU : U.toInt = (n : Int) - 1) : f_X11_within v 0 U = some (if pn_ok v n then 1 else 0) := by
  have e0 : (v < 0) = (v.toInt < 0) := propext (Int32.lt_iff_toInt_lt.trans (by rw [nI_toInt0]))
  have e1 : (U < v) = ((n : Int) ≤ v.toInt) := propext (Int32.lt_iff_toInt_lt.trans (by rw [hU]; omega))
  simp only [f_X11_within, ya_j0, e0, e1, pn_ok]
  by_cases h0 : v.toInt < 0
  · rw [if_pos h0, if_neg (by omega)]
  · rw [if_neg h0]
    by_cases h1 : (n : Int) ≤ v.toInt
    · rw [if_pos h1, if_neg (by omega)]
    · rw [if_neg h1, if_pos (by omega)]
/-- what calls may change without harm: cells that every call tells anew, and the market -/
abbrev pz_s (a k : Nat) : Prop := a = 0 ∨ (24 ≤ a ∧ a ≤ 80) ∨ a = 84 ∨ (88 ≤ a ∧ a ≤ 103) ∨ a = 107 ∨ (a = 83 ∧ k = 27)
def pz_F (d d' : ya_D) : Prop := (∀ a k, ¬ pz_s a k → d'.1 a k = d.1 a k) ∧ (∀ a k, a ≠ 42 → a ≠ 57 → a ≠ 83 → a ≠ 107 → d'.2 a k = d.2 a k)
theorem pz_F_r (d : ya_D) : pz_F d d := ⟨fun _ _ _ => rfl, fun _ _ _ _ _ _ => rfl⟩
theorem pz_F_t {d1 d2 d3 : ya_D} (h : pz_F d1 d2) (h' : pz_F d2 d3) : pz_F d1 d3 := ⟨fun a k q => (h'.1 a k q).trans (h.1 a k q), fun a k q1 q2 q3 q4 => (h'.2 a k q1 q2 q3 q4).trans (h.2 a k q1 q2 q3 q4)⟩
/-- the class's year of 42 .. 56 is what the reference's run tells, wherever it runs over as good a market -/
def yr_Kn (d : ya_D) (M : pm_M) : Prop := ∀ (e : ya_D) (M' : pm_M), ys e M M' → ∃ e', f_X12_runs (lN 1) e = some e' ∧ yr_f2 e e' ∧ ∃ (l g : Nat → Nat → Nat) (p : Nat → Nat), yr_D M 42 (M 0 1) l g p d e'
def pz_Y (d : ya_D) (M : pm_M) : Prop := d.1 0 9 = 0 ∨ (d.1 0 9 = 1 ∧ yr_Kn d M)
section
variable {d e : ya_D} {M M' : pm_M}
theorem yr_D_c {a t : Nat} {l g : Nat → Nat → Nat} {p : Nat → Nat} {d' : ya_D} (h : yr_D M a t l g p d e) (q : ∀ a', a ≤ a' → a' < a + 15 → d'.1 a' = d.1 a') (q2 : d'.2 a = d.2 a) : yr_D M a t l g p d' e := by
  obtain ⟨h1, h2, h3, h4, h5, h6, h7, h8, h9⟩ := h
  refine ⟨yr_L_c h1 (q _ (by omega) (by omega)) (q _ (by omega) (by omega)) rfl, yr_G_c h2 (q _ (by omega) (by omega)) (q _ (by omega) (by omega)) rfl, ?_, ?_, ?_, ?_, yr_C_c h7 (q _ (by omega) (by omega)) (q _ (by omega) (by omega)) (q _ (by omega) (by omega)) rfl rfl rfl, ?_, h9⟩
  · rw [q _ (by omega) (by omega)]; exact h3
  · rw [q _ (by omega) (by omega)]; exact h4
  · rw [q _ (by omega) (by omega)]; exact h5
  · unfold yr_P
    rw [q (a + 12) (by omega) (by omega), q (a + 13) (by omega) (by omega), q a (by omega) (by omega), q2]; exact h6
  · rw [q _ (by omega) (by omega)]; exact h8
theorem yr_Kn_c {d' : ya_D} (h : yr_Kn d M) (q : ∀ a', 42 ≤ a' → a' < 57 → d'.1 a' = d.1 a') (q2 : d'.2 42 = d.2 42) : yr_Kn d' M := by
  intro e M' he
  obtain ⟨e', h1, h2, l, g, p, h3⟩ := h e M' he
  exact ⟨e', h1, h2, l, g, p, yr_D_c h3 q q2⟩
theorem pz_Y_c {d' : ya_D} (h : pz_Y d M) (q : ∀ a', 42 ≤ a' → a' < 57 → d'.1 a' = d.1 a') (q2 : d'.2 42 = d.2 42) (q0 : d'.1 0 9 = d.1 0 9) : pz_Y d' M := by
  unfold pz_Y
  rw [q0]
  exact h.imp id (fun h => ⟨h.1, yr_Kn_c h.2 q q2⟩)
theorem ys_I (h : pm_I d M) : ys d M M := ⟨h.2.1, h.2.2, h.2.2, pv_sim_r M⟩
/-- what a run of the year makes known -/
theorem yr_Kn_run {d' : ya_D} (hC : pm_C d 24 M) (hW : pm_W M) (h : f_X10_run 42 24 (nI 1) d = some d') : yr_Kn d' M := by
  intro e M' he
  obtain ⟨d2, e2, ⟨l, g, p, A1⟩, A2, A3, A4, A5⟩ := yr_run (a := 42) (S := 1) hC he (by omega) (by omega)
  rw [h] at A4
  cases A4
  exact ⟨e2, A5, A3, l, g, p, A1⟩
theorem pm_I_f1 {a : Nat} {d' : ya_D} (h : pm_I d M) (ha : 42 ≤ a) (hb : a + 15 ≤ 84) (f : yr_f1 a d d') : pm_I d' M :=
  ⟨yr_f1_C ha f h.1, pm_R_c h.2.1 (fun k => congrFun (f.1 84 (by omega)) k), h.2.2⟩
theorem pm_I_f2 {d' : ya_D} (h : pm_I d M) (f : yr_f2 d d') : pm_I d' M :=
  ⟨pm_C_c h.1 (fun a k h1 h2 => congrFun (f.1 a (by omega) (by omega)) k), pm_R_c h.2.1 (fun k => congrFun (f.1 84 (by omega) (by omega)) k), h.2.2⟩
theorem pz_F_f1 {a : Nat} {d' : ya_D} (ha : a = 42 ∨ a = 57) (f : yr_f1 a d d') : pz_F d d' :=
  ⟨fun a' k q => congrFun (f.1 a' (by unfold pz_s at q; omega)) k, fun a' k q1 q2 q3 q4 => f.2.2 a' k (Or.inl (by omega))⟩
theorem pz_F_f2 {d' : ya_D} (f : yr_f2 d d') : pz_F d d' := by
  refine ⟨fun a' k q => ?_, fun a' k q1 q2 q3 q4 => f.2.2 a' k (Or.inl q3)⟩
  unfold pz_s at q
  by_cases c : a' = 83
  · subst c
    exact f.2.1 k (by omega)
  · exact congrFun (f.1 a' c (by omega)) k
/-- the year as it is: the class's, then the reference's -/
theorem pz_year (hI : pm_I d M) (hY : pz_Y d M) : ∃ (d1 d2 : ya_D) (l g : Nat → Nat → Nat) (p : Nat → Nat), f_X11_thisYear d = some d1 ∧ f_X12_runs 1 d1 = some d2 ∧ yr_D M 42 (M 0 1) l g p d1 d2 ∧ pm_I d1 M ∧ pm_I d2 M ∧ pz_Y d1 M ∧ pz_Y d2 M ∧ pz_F d d1 ∧ pz_F d d2 ∧ d1.1 0 9 = 1 ∧ yr_f2 d1 d2 ∧ (∀ a', 24 ≤ a' → a' < 42 → d1.1 a' = d.1 a') := by
  have main : ∃ d1, f_X11_thisYear d = some d1 ∧ pm_I d1 M ∧ d1.1 0 9 = 1 ∧ yr_Kn d1 M ∧ pz_F d d1 ∧ (∀ a', 24 ≤ a' → a' < 42 → d1.1 a' = d.1 a') := by
    unfold f_X11_thisYear
    rcases hY with h0 | ⟨h1, hK⟩
    · obtain ⟨d1, e1, -, A2, -, A4, -⟩ := yr_run (a := 42) (S := 1) hI.1 (ys_I hI) (by omega) (by omega)
      have hK := yr_Kn_run hI.1 hI.2.2 A4
      have hI1 := pm_I_f1 hI (by omega) (by omega) A2
      refine ⟨ya_sI d1 0 9 1, ?_, ⟨pm_C_c hI1.1 (fun a k h1 h2 => pn_o (by omega)), pm_R_c hI1.2.1 (fun k => pn_o (by omega)), hI1.2.2⟩, pn_e ⟨rfl, rfl⟩, yr_Kn_c hK (fun a' h1 h2 => rw_n (by omega)) rfl, pz_F_t (pz_F_f1 (Or.inl rfl) A2) ⟨fun a' k q => pn_o (by unfold pz_s at q; omega), fun _ _ _ _ _ _ => rfl⟩, fun a' h1 h2 => (rw_n (by omega)).trans (A2.1 a' (by omega))⟩
      rw [pj_1, if_pos h0, pl_1, A4, Option.bind_some, pb_pI, Option.bind_some]
    · refine ⟨d, ?_, hI, h1, hK, pz_F_r d, fun _ _ _ => rfl⟩
      rw [pj_1, if_neg (by rw [h1]; decide)]
  obtain ⟨d1, A1, A2, A3, A4, A5, A6⟩ := main
  obtain ⟨d2, B1, B2, l, g, p, B3⟩ := A4 d1 M (ys_I A2)
  refine ⟨d1, d2, l, g, p, A1, B1, B3, A2, pm_I_f2 A2 B2, Or.inr ⟨A3, A4⟩, ?_, A5, pz_F_t A5 (pz_F_f2 B2), A3, B2, A6⟩
  exact pz_Y_c (Or.inr ⟨A3, A4⟩) (fun a' h1 h2 => B2.1 a' (by omega) (by omega)) (by funext k; exact B2.2.2 42 k (by omega)) (by rw [B2.1 0 (by omega) (by omega)])
theorem pz_this1 (h : d.1 0 9 = 1) : f_X11_thisYear d = some d := by
  unfold f_X11_thisYear
  rw [pj_1, if_neg (by rw [h]; decide)]
/-- how calls of class and reference go together: the same answer, and what stands behind them -/
def pz_op (d : ya_D) (M : pm_M) (f1 f2 : ya_D → Option (Int32 × ya_D)) : Prop := ∃ (r : Int32) (d1 d2 : ya_D) (M' : pm_M), f1 d = some (r, d1) ∧ f2 d1 = some (r, d2) ∧ pm_I d2 M' ∧ pz_Y d2 M' ∧ pz_F d d2
theorem pz_no (hI : pm_I d M) (hY : pz_Y d M) {f1 f2 : ya_D → Option (Int32 × ya_D)} {r : Int32} (h1 : f1 d = some (r, d)) (h2 : f2 d = some (r, d)) : pz_op d M f1 f2 := ⟨r, d, d, M, h1, h2, hI, hY, pz_F_r d⟩
/-- an answer of a thing on a day that the year tells -/
theorem pz_offered (hI : pm_I d M) (hY : pz_Y d M) (v w : Int32) : pz_op d M (f_X11_offered v w) (f_X12_offered v w) := by
  have hb := pm_b hI.2.2
  by_cases e : pn_ok v (M 0 3) ∧ pn_ok w (M 0 1)
  · obtain ⟨x, hx, hx3, rfl⟩ := pn_ok_ex e.1
    obtain ⟨t, ht, ht3, rfl⟩ := pn_ok_ex e.2
    obtain ⟨d1, d2, l, g, p, A1, A2, A3, A4, A5, A6, A7, A8, A9, A10, A11, A12⟩ := pz_year hI hY
    have hc := A3.2.2.2.2.2.2.1 x t hx ht ht
    refine ⟨d1.1 43 (20 * x + t), d1, d2, M, ?_, ?_, A5, A7, A9⟩
    · unfold f_X11_offered
      rw [pm_areSo1 hI, Option.bind_some, if_pos e, if_neg pn_10, A1, Option.bind_some, pm_cell1, Option.bind_some, pn_rI (by omega) (by omega), Option.bind_some]
    · unfold f_X12_offered
      rw [pm_areSo2 A4.2, Option.bind_some, if_pos e, if_neg pn_10, A2, Option.bind_some, pm_cell2, Option.bind_some, pn_rI (by omega) (by omega), Option.bind_some, ← hc.1]
  · refine pz_no hI hY (r := -2) ?_ ?_
    · unfold f_X11_offered
      rw [pm_areSo1 hI, Option.bind_some, if_neg e, if_pos rfl]
    · unfold f_X12_offered
      rw [pm_areSo2 hI.2, Option.bind_some, if_neg e, if_pos rfl]
theorem pz_sold (hI : pm_I d M) (hY : pz_Y d M) (v w : Int32) : pz_op d M (f_X11_sold v w) (f_X12_sold v w) := by
  have hb := pm_b hI.2.2
  by_cases e : pn_ok v (M 0 3) ∧ pn_ok w (M 0 1)
  · obtain ⟨x, hx, hx3, rfl⟩ := pn_ok_ex e.1
    obtain ⟨t, ht, ht3, rfl⟩ := pn_ok_ex e.2
    obtain ⟨d1, d2, l, g, p, A1, A2, A3, A4, A5, A6, A7, A8, A9, A10, A11, A12⟩ := pz_year hI hY
    have hc := A3.2.2.2.2.2.2.1 x t hx ht ht
    refine ⟨d1.1 45 (20 * x + t), d1, d2, M, ?_, ?_, A5, A7, A9⟩
    · unfold f_X11_sold
      rw [pm_areSo1 hI, Option.bind_some, if_pos e, if_neg pn_10, A1, Option.bind_some, pm_cell1, Option.bind_some, pn_rI (by omega) (by omega), Option.bind_some]
    · unfold f_X12_sold
      rw [pm_areSo2 A4.2, Option.bind_some, if_pos e, if_neg pn_10, A2, Option.bind_some, pm_cell2, Option.bind_some, pn_rI (by omega) (by omega), Option.bind_some, ← hc.2.2]
  · refine pz_no hI hY (r := -2) ?_ ?_
    · unfold f_X11_sold
      rw [pm_areSo1 hI, Option.bind_some, if_neg e, if_pos rfl]
    · unfold f_X12_sold
      rw [pm_areSo2 hI.2, Option.bind_some, if_neg e, if_pos rfl]
theorem pz_queue (hI : pm_I d M) (hY : pz_Y d M) (v w : Int32) : pz_op d M (f_X11_queue v w) (f_X12_queue v w) := by
  have hb := pm_b hI.2.2
  by_cases e : pn_ok v (M 0 3) ∧ pn_ok w (M 0 1)
  · obtain ⟨x, hx, hx3, rfl⟩ := pn_ok_ex e.1
    obtain ⟨t, ht, ht3, rfl⟩ := pn_ok_ex e.2
    obtain ⟨d1, d2, l, g, p, A1, A2, A3, A4, A5, A6, A7, A8, A9, A10, A11, A12⟩ := pz_year hI hY
    have hc := A3.2.2.2.2.2.2.1 x t hx ht ht
    refine ⟨ya_max 0 (d1.1 44 (20 * x + t) - d1.1 43 (20 * x + t)), d1, d2, M, ?_, ?_, A5, A7, A9⟩
    · unfold f_X11_queue
      rw [pm_areSo1 hI, Option.bind_some, if_pos e, if_neg pn_10, pm_cell1, Option.bind_some, A1, Option.bind_some, pn_rI (by omega) (by omega), Option.bind_some, pz_this1 A10, Option.bind_some, pn_rI (by omega) (by omega), Option.bind_some]
    · unfold f_X12_queue
      rw [pm_areSo2 A4.2, Option.bind_some, if_pos e, if_neg pn_10, A2, Option.bind_some, pm_cell2, Option.bind_some, pn_rI (by omega) (by omega), Option.bind_some, Option.bind_some, pn_rI (by omega) (by omega), Option.bind_some, ← hc.1, hc.2.1.2, ← hc.2.1.1]
  · refine pz_no hI hY (r := -2) ?_ ?_
    · unfold f_X11_queue
      rw [pm_areSo1 hI, Option.bind_some, if_neg e, if_pos rfl]
    · unfold f_X12_queue
      rw [pm_areSo2 hI.2, Option.bind_some, if_neg e, if_pos rfl]
theorem pz_spoils (hI : pm_I d M) (hY : pz_Y d M) (v w : Int32) : pz_op d M (f_X11_spoils v w) (f_X12_spoils v w) := by
  have hb := pm_b hI.2.2
  by_cases e : pn_ok v (M 0 3) ∧ pn_ok w (M 0 1)
  · obtain ⟨x, hx, hx3, rfl⟩ := pn_ok_ex e.1
    obtain ⟨t, ht, ht3, rfl⟩ := pn_ok_ex e.2
    obtain ⟨d1, d2, l, g, p, A1, A2, A3, A4, A5, A6, A7, A8, A9, A10, A11, A12⟩ := pz_year hI hY
    have hc := A3.2.2.2.2.1 (20 * x + t) (by omega)
    refine ⟨d1.1 46 (20 * x + t), d1, d2, M, ?_, ?_, A5, A7, A9⟩
    · unfold f_X11_spoils
      rw [pm_areSo1 hI, Option.bind_some, if_pos e, if_neg pn_10, A1, Option.bind_some, pm_cell1, Option.bind_some, pn_rI (by omega) (by omega), Option.bind_some]
    · unfold f_X12_spoils
      rw [pm_areSo2 A4.2, Option.bind_some, if_pos e, if_neg pn_10, A2, Option.bind_some, pm_cell2, Option.bind_some, pn_rI (by omega) (by omega), Option.bind_some, ← hc]
  · refine pz_no hI hY (r := -2) ?_ ?_
    · unfold f_X11_spoils
      rw [pm_areSo1 hI, Option.bind_some, if_neg e, if_pos rfl]
    · unfold f_X12_spoils
      rw [pm_areSo2 hI.2, Option.bind_some, if_neg e, if_pos rfl]
/-- asked: the reference runs no year -/
theorem pz_asked (hI : pm_I d M) (hY : pz_Y d M) (v w : Int32) : ∃ (r : Int32) (d1 : ya_D), f_X11_asked v w d = some (r, d1) ∧ f_X12_asked v w d1 = some r ∧ pm_I d1 M ∧ pz_Y d1 M ∧ pz_F d d1 := by
  have hb := pm_b hI.2.2
  by_cases e : pn_ok v (M 0 3) ∧ pn_ok w (M 0 1)
  · obtain ⟨x, hx, hx3, rfl⟩ := pn_ok_ex e.1
    obtain ⟨t, ht, ht3, rfl⟩ := pn_ok_ex e.2
    obtain ⟨d1, d2, l, g, p, A1, A2, A3, A4, A5, A6, A7, A8, A9, A10, A11, A12⟩ := pz_year hI hY
    have hc := A3.2.2.2.2.2.2.1 x t hx ht ht
    refine ⟨d1.1 44 (20 * x + t), d1, ?_, ?_, A4, A6, A8⟩
    · unfold f_X11_asked
      rw [pm_areSo1 hI, Option.bind_some, if_pos e, if_neg pn_10, A1, Option.bind_some, pm_cell1, Option.bind_some, pn_rI (by omega) (by omega), Option.bind_some]
    · unfold f_X12_asked
      rw [pm_areSo2 A4.2, Option.bind_some, if_pos e, if_neg pn_10, pk_asked A4.2.1 A4.2.2 hx ht, Option.bind_some, hc.2.1.1]
  · refine ⟨-2, d, ?_, ?_, hI, hY, pz_F_r d⟩
    · unfold f_X11_asked
      rw [pm_areSo1 hI, Option.bind_some, if_neg e, if_pos rfl]
    · unfold f_X12_asked
      rw [pm_areSo2 hI.2, Option.bind_some, if_neg e, if_pos rfl]
end

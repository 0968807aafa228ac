/-! gets, stock, seller, buyer, rich, village -/
/-- the first of the greatest f 0 .. f (n - 1) -/
def pn_am (f : Nat → Nat) : Nat → Nat
  | 0 => 0
  | n + 1 => if f n ≤ f (pn_am f n) then pn_am f n else n
theorem pn_am_lt {f : Nat → Nat} : ∀ n, 0 < n → pn_am f n < n
  | 0, h => by omega
  | n + 1, _ => by
    rw [pn_am]
    split
    · rcases Nat.eq_zero_or_pos n with h | h
      · subst h; rw [pn_am]; omega
      · have := pn_am_lt (f := f) n h
        omega
    · omega
theorem pn_am_le {f : Nat → Nat} : ∀ n i, i < n → f i ≤ f (pn_am f n)
  | 0, _, h => by omega
  | n + 1, i, h => by
    rw [pn_am]
    by_cases c : f n ≤ f (pn_am f n)
    · rw [if_pos c]
      by_cases q : i = n
      · rw [q]; exact c
      · exact pn_am_le n i (by omega)
    · rw [if_neg c]
      by_cases q : i = n
      · rw [q]; exact Nat.le_refl _
      · have := pn_am_le (f := f) n i (by omega)
        omega
theorem pn_am_c {f g : Nat → Nat} : ∀ n, (∀ i, i < n → f i = g i) → pn_am f n = pn_am g n
  | 0, _ => rfl
  | n + 1, h => by
    have e := pn_am_c n (fun i hi => h i (by omega))
    rw [pn_am, pn_am, e]
    rcases Nat.eq_zero_or_pos n with c | c
    · subst c
      simp only [pn_am, Nat.le_refl, if_true]
    · have := pn_am_lt (f := g) n c
      rw [h n (by omega), h (pn_am g n) (by omega)]
/-- the bit of s in v -/
abbrev pv_bit (v : Int32) (s : Nat) : Prop := ((v >>> (nI s &&& 31)) &&& 1) = 1
/-- what the sellers of v get together on day t -/
def pv_tg (g : Nat → Nat → Nat) (v : Int32) (n t : Nat) : Nat := pn_sum (fun s => if pv_bit v s then g s t else 0) n
section
variable {d e : ya_D} {M M' : pm_M}
theorem pz_gets (hI : pm_I d M) (hY : pz_Y d M) (v w : Int32) : pz_op d M (f_X11_gets v w) (f_X12_gets v w) := by
  have hb := pm_b hI.2.2
  by_cases e1 : pn_ok v (M 0 4)
  · by_cases e2 : pn_ok w (M 0 1)
    · obtain ⟨s, hs, hs3, rfl⟩ := pn_ok_ex e1
      obtain ⟨t, ht, ht3, rfl⟩ := pn_ok_ex e2
      obtain ⟨d1, d2, l, g, p, A1, A2, A3, A4, A5, A6, A7, A8, A9, A10, A11, A12⟩ := pz_year hI hY
      have hc := A3.2.1.1 s t hs (by omega)
      refine ⟨d1.1 47 (20 * s + t), d1, d2, M, ?_, ?_, A5, A7, A9⟩
      · unfold f_X11_gets
        rw [pm_isSeller1 hI, Option.bind_some, if_pos e1, pj_0, if_neg pn_10, pm_isDay1 hI, Option.bind_some, if_pos e2, if_neg pn_10, A1, Option.bind_some, pm_cell1, Option.bind_some, pn_rI (by omega) (by omega), Option.bind_some]
      · unfold f_X12_gets
        rw [pm_isSeller2 A4.2, Option.bind_some, if_pos e1, pj_0, if_neg pn_10, pm_isDay2 A4.2, Option.bind_some, if_pos e2, if_neg pn_10, A2, Option.bind_some, pm_cell2, Option.bind_some, pn_rI (by omega) (by omega), Option.bind_some, hc.2, ← hc.1]
    · refine pz_no hI hY (r := -2) ?_ ?_
      · unfold f_X11_gets
        rw [pm_isSeller1 hI, Option.bind_some, if_pos e1, pj_0, if_neg pn_10, pm_isDay1 hI, Option.bind_some, if_neg e2, if_pos rfl]
      · unfold f_X12_gets
        rw [pm_isSeller2 hI.2, Option.bind_some, if_pos e1, pj_0, if_neg pn_10, pm_isDay2 hI.2, Option.bind_some, if_neg e2, if_pos rfl]
  · refine pz_no hI hY (r := -2) ?_ ?_
    · unfold f_X11_gets
      rw [pm_isSeller1 hI, Option.bind_some, if_neg e1, pj_0, if_pos rfl]
    · unfold f_X12_gets
      rw [pm_isSeller2 hI.2, Option.bind_some, if_neg e1, pj_0, if_pos rfl]
theorem pz_stock (hI : pm_I d M) (hY : pz_Y d M) (v w : Int32) : pz_op d M (f_X11_stock v w) (f_X12_stock v w) := by
  have hb := pm_b hI.2.2
  by_cases e1 : pn_ok v (M 0 4)
  · by_cases e2 : pn_ok w (M 0 1)
    · obtain ⟨s, hs, hs3, rfl⟩ := pn_ok_ex e1
      obtain ⟨t, ht, ht3, rfl⟩ := pn_ok_ex e2
      obtain ⟨d1, d2, l, g, p, A1, A2, A3, A4, A5, A6, A7, A8, A9, A10, A11, A12⟩ := pz_year hI hY
      have hc := A3.2.2.2.2.2.2.2.1 s t hs ht
      refine ⟨d1.1 48 (20 * s + t), d1, d2, M, ?_, ?_, A5, A7, A9⟩
      · unfold f_X11_stock
        rw [pm_isSeller1 hI, Option.bind_some, if_pos e1, pj_0, if_neg pn_10, pm_isDay1 hI, Option.bind_some, if_pos e2, if_neg pn_10, A1, Option.bind_some, pm_cell1, Option.bind_some, pn_rI (by omega) (by omega), Option.bind_some]
      · unfold f_X12_stock
        rw [pm_isSeller2 A4.2, Option.bind_some, if_pos e1, pj_0, if_neg pn_10, pm_isDay2 A4.2, Option.bind_some, if_pos e2, if_neg pn_10, A2, Option.bind_some, pm_cell2, Option.bind_some, pn_rI (by omega) (by omega), Option.bind_some, ← hc]
    · refine pz_no hI hY (r := -2) ?_ ?_
      · unfold f_X11_stock
        rw [pm_isSeller1 hI, Option.bind_some, if_pos e1, pj_0, if_neg pn_10, pm_isDay1 hI, Option.bind_some, if_neg e2, if_pos rfl]
      · unfold f_X12_stock
        rw [pm_isSeller2 hI.2, Option.bind_some, if_pos e1, pj_0, if_neg pn_10, pm_isDay2 hI.2, Option.bind_some, if_neg e2, if_pos rfl]
  · refine pz_no hI hY (r := -2) ?_ ?_
    · unfold f_X11_stock
      rw [pm_isSeller1 hI, Option.bind_some, if_neg e1, pj_0, if_pos rfl]
    · unfold f_X12_stock
      rw [pm_isSeller2 hI.2, Option.bind_some, if_neg e1, pj_0, if_pos rfl]
/-- nothing more is added, nothing greater comes -/
theorem pn_sum_ext0 {f : Nat → Nat} {n : Nat} : ∀ m, n ≤ m → (∀ q, n ≤ q → q < m → f q = 0) → pn_sum f m = pn_sum f n
  | 0, h, _ => by rw [show n = 0 by omega]
  | m + 1, h, h0 => by
    rcases Nat.lt_or_ge m n with c | c
    · rw [show n = m + 1 by omega]
    · rw [pn_sum, pn_sum_ext0 m c (fun q a b => h0 q a (by omega)), h0 m c (by omega), Nat.add_zero]
theorem pn_am_up {f : Nat → Nat} {n : Nat} : ∀ m, n ≤ m → (∀ q, n ≤ q → q < m → f q = 0) → pn_am f m = pn_am f n
  | 0, h, _ => by rw [show n = 0 by omega]
  | m + 1, h, h0 => by
    rcases Nat.lt_or_ge m n with c | c
    · rw [show n = m + 1 by omega]
    · rw [pn_am, h0 m c (by omega), if_pos (Nat.zero_le _)]
      exact pn_am_up m c (fun q a b => h0 q a (by omega))
theorem pv_tg_up {g : Nat → Nat → Nat} {v : Int32} {n t : Nat} (hn : n ≤ 5) (hv : ∀ q, n ≤ q → q < 5 → ¬ pv_bit v q) : pv_tg g v 5 t = pv_tg g v n t :=
  pn_sum_ext0 5 hn (fun q h1 h2 => if_neg (hv q h1 h2))
/-- the class: what some sellers get on a day, once the year is known; days behind the last bring nothing -/
theorem pz_takings {l g : Nat → Nat → Nat} {p : Nat → Nat} (hD : yr_D M 42 (M 0 1) l g p d e) (hb4 : M 0 4 ≤ 5) {v : Int32} (hv : ∀ q, M 0 4 ≤ q → q < 5 → ¬ pv_bit v q) {t : Nat} (ht : t < 20) : f_X10_takings 42 v (nI t) d = some (nI (pv_tg g v (M 0 4) t)) := by
  unfold f_X10_takings
  rw [← pv_tg_up hb4 hv]
  refine pn_lp (G := fun fu i => f_X10_takings_L5 42 v (nI t) d fu (nI (pv_tg g v i t)) (nI i)) (n := 5) (fun fu => ?_) (fun fu i hi => ?_) ya_F 0 (by omega) (by unfold ya_F; omega)
  · show f_X10_takings_L5 _ _ _ _ (fu + 1) _ _ = _
    rw [f_X10_takings_L5, if_pos (show (5 : Int32) ≤ nI 5 by decide)]
  · show f_X10_takings_L5 _ _ _ _ (fu + 1) _ _ = f_X10_takings_L5 _ _ _ _ fu _ _
    have q : pv_tg g v (i + 1) t = pv_tg g v i t + if pv_bit v i then g i t else 0 := rfl
    rw [f_X10_takings_L5, if_neg (show ¬ (5 : Int32) ≤ nI i from nI_ge (b := 5) hi (by omega)), q, pj_1]
    by_cases c : pv_bit v i
    · have hi4 : i < M 0 4 := by
        rcases Nat.lt_or_ge i (M 0 4) with z | z
        · exact z
        · exact absurd c (hv i z hi)
      have hc : d.1 (42 + 5) (20 * i + t) = nI (g i t) := (hD.2.1.1 i t hi4 ht).1
      rw [if_pos c, if_pos c, pm_cell1, Option.bind_some, pn_rI (by omega) (by omega), Option.bind_some, hc, nI_add, nI_1]
    · rw [if_neg c, if_neg c, nI_1]
      rfl
theorem pv_tg_le {g : Nat → Nat → Nat} {v : Int32} {n t : Nat} (hg : ∀ s t, g s t ≤ 400000) : pv_tg g v n t ≤ 400000 * n := pn_sum_le n (fun s _ => by split <;> first | exact hg s t | omega)
theorem pn_am_lt' {f : Nat → Nat} {i n : Nat} (h : i < n) : pn_am f i < n := by
  rcases Nat.eq_zero_or_pos i with c | c
  · subst c; rw [pn_am]; exact h
  · have := pn_am_lt (f := f) i c
    omega
theorem pz_richest {l g : Nat → Nat → Nat} {p : Nat → Nat} (hD : yr_D M 42 (M 0 1) l g p d e) (hb1 : M 0 1 ≤ 20) (hb4 : M 0 4 ≤ 5) {v : Int32} (hv : ∀ q, M 0 4 ≤ q → q < 5 → ¬ pv_bit v q) : f_X10_richestDay 42 v d = some (nI (pn_am (pv_tg g v (M 0 4)) (M 0 1))) := by
  have h1 : pn_am (pv_tg g v (M 0 4)) 1 = 0 := by
    rw [pn_am, pn_am, if_pos (Nat.le_refl _)]
  have h2 : pn_am (pv_tg g v (M 0 4)) 20 = pn_am (pv_tg g v (M 0 4)) (M 0 1) := pn_am_up 20 hb1 (fun q hq _ => pn_sum_0 _ (fun s hs => by rw [hD.2.1.2.2.2 s q hs hq, ite_self]))
  unfold f_X10_richestDay
  rw [← h2]
  have key := pn_lp (G := fun fu i => f_X10_richestDay_L4 42 v d fu (nI (pn_am (pv_tg g v (M 0 4)) i)) (nI i)) (n := 20) (r := some (nI (pn_am (pv_tg g v (M 0 4)) 20))) (fun fu => ?_) (fun fu i hi => ?_) ya_F 1 (by omega) (by unfold ya_F; omega)
  · simp only [h1] at key
    rw [pl_0, pl_1]; exact key
  · show f_X10_richestDay_L4 _ _ _ (fu + 1) _ _ = _
    rw [f_X10_richestDay_L4, if_pos (show (20 : Int32) ≤ nI 20 by decide)]
  · show f_X10_richestDay_L4 _ _ _ (fu + 1) _ _ = f_X10_richestDay_L4 _ _ _ fu _ _
    have g1 := pv_tg_le (v := v) (n := M 0 4) (t := i) hD.2.1.2.2.1
    have g2 := pv_tg_le (v := v) (n := M 0 4) (t := pn_am (pv_tg g v (M 0 4)) i) hD.2.1.2.2.1
    rw [f_X10_richestDay_L4, if_neg (show ¬ (20 : Int32) ≤ nI i from nI_ge (b := 20) hi (by omega)), pz_takings hD hb4 hv hi, Option.bind_some, pz_takings hD hb4 hv (pn_am_lt' hi), Option.bind_some, pj_1, pn_am]
    by_cases c : pv_tg g v (M 0 4) i ≤ pv_tg g v (M 0 4) (pn_am (pv_tg g v (M 0 4)) i)
    · rw [if_pos c, if_pos (nI_le c (by omega)), nI_1]
    · rw [if_neg c, if_neg (nI_ge (by omega) (by omega)), nI_1]
/-- the reference: a seller's gets in all, his best day -/
theorem pz_allGets {l g : Nat → Nat → Nat} {p : Nat → Nat} {a : Nat} (h : ys e M M') (hD : yr_D M a (M 0 1) l g p d e) {s : Nat} (hs : s < M 0 4) : f_X12_allGets (nI s) e = some (nI (pn_sum (g s) (M 0 1))) := by
  obtain ⟨⟨b0, b1, b2, b3, b4, b5⟩, -, -, -, -, -⟩ := pk_w h.2.1
  have r0 := (ys_n h).1
  unfold f_X12_allGets
  refine pn_lp (G := fun fu i => f_X12_allGets_L4 (nI s) e fu (nI (pn_sum (g s) i)) (nI i)) (n := M 0 1) (fun fu => ?_) (fun fu i hi => ?_) ya_F 0 (by omega) (by unfold ya_F; omega)
  · show f_X12_allGets_L4 _ _ (fu + 1) _ _ = _
    rw [f_X12_allGets_L4]
    simp (disch := omega) only [pl_0, pl_1, pl_2, pl_3, pl_4, pl_5, pl_6, pl_7, pl_8, pl_9, pl_10, pl_11, pl_12, pl_20, pl_24, pl_30, pl_31, pl_60, pl_99, pl_100, pl_111, pl_211, pl_311, pl_326, pl_400, pl_426, pb_s, ya_b2s, pj_0, pj_1, pj_2, pj_3, pb_pI, pb_pL, pm_cell1, pm_cell2, nI_add, pn_mul, pn_sub, pn_rI, pn_wI, pn_eq, pn_le, pn_lt, pm_min, pn_o, pn_e, pn_sI2, Nat.zero_add, Nat.add_zero, r0, Nat.le_refl, if_true]
  · show f_X12_allGets_L4 _ _ (fu + 1) _ _ = f_X12_allGets_L4 _ _ fu _ _
    have hc : e.1 94 (20 * s + i) = nI (g s i) := (hD.2.1.1 s i hs (by omega)).2
    rw [f_X12_allGets_L4, pn_sum]
    simp (disch := omega) only [pl_0, pl_1, pl_2, pl_3, pl_4, pl_5, pl_6, pl_7, pl_8, pl_9, pl_10, pl_11, pl_12, pl_20, pl_24, pl_30, pl_31, pl_60, pl_99, pl_100, pl_111, pl_211, pl_311, pl_326, pl_400, pl_426, pb_s, ya_b2s, pj_0, pj_1, pj_2, pj_3, pb_pI, pb_pL, pm_cell1, pm_cell2, nI_add, pn_mul, pn_sub, pn_rI, pn_wI, pn_eq, pn_le, pn_lt, pm_min, pn_o, pn_e, pn_sI2, Nat.zero_add, Nat.add_zero, r0, if_neg (Nat.not_le.mpr hi), hc]
theorem pz_bestDay {l g : Nat → Nat → Nat} {p : Nat → Nat} {a : Nat} (h : ys e M M') (hD : yr_D M a (M 0 1) l g p d e) {s : Nat} (hs : s < M 0 4) (hn : 0 < M 0 1) : f_X12_bestDay (nI s) e = some (if g s (pn_am (g s) (M 0 1)) = 0 then -1 else nI (pn_am (g s) (M 0 1))) := by
  obtain ⟨⟨b0, b1, b2, b3, b4, b5⟩, -, -, -, -, -⟩ := pk_w h.2.1
  have r0 := (ys_n h).1
  have h1 : pn_am (g s) 1 = 0 := by
    rw [pn_am, pn_am, if_pos (Nat.le_refl _)]
  unfold f_X12_bestDay
  have key := pn_lp (G := fun fu i => f_X12_bestDay_L4 (nI s) e (fun (v2_49 : Int32) =>
    (f_X12_at (nI s) v2_49).bind fun x55 =>
    (ya_rI e 94 100 x55).bind fun x58 =>
    if x58 = 0 then
      some (-1)
    else
    some v2_49) fu (nI (pn_am (g s) i)) (nI i)) (n := M 0 1) (r := some (if g s (pn_am (g s) (M 0 1)) = 0 then -1 else nI (pn_am (g s) (M 0 1)))) (fun fu => ?_) (fun fu i hi => ?_) ya_F 1 (by omega) (by unfold ya_F; omega)
  · simp only [h1] at key
    rw [pl_0, pl_1] at *
    exact key
  · show f_X12_bestDay_L4 _ _ _ (fu + 1) _ _ = _
    have hlt : pn_am (g s) (M 0 1) < M 0 1 := pn_am_lt _ hn
    have hc : e.1 94 (20 * s + pn_am (g s) (M 0 1)) = nI (g s (pn_am (g s) (M 0 1))) := (hD.2.1.1 s _ hs (by omega)).2
    have hle := hD.2.1.2.2.1 s (pn_am (g s) (M 0 1))
    rw [f_X12_bestDay_L4]
    simp (disch := omega) only [pl_0, pl_1, pl_2, pl_3, pl_4, pl_5, pl_6, pl_7, pl_8, pl_9, pl_10, pl_11, pl_12, pl_20, pl_24, pl_30, pl_31, pl_60, pl_99, pl_100, pl_111, pl_211, pl_311, pl_326, pl_400, pl_426, pb_s, ya_b2s, pj_0, pj_1, pj_2, pj_3, pb_pI, pb_pL, pm_cell1, pm_cell2, nI_add, pn_mul, pn_sub, pn_rI, pn_wI, pn_eq, pn_le, pn_lt, pm_min, pn_o, pn_e, pn_sI2, Nat.zero_add, Nat.add_zero, r0, Nat.le_refl, if_true, hc]
    split <;> rfl
  · show f_X12_bestDay_L4 _ _ _ (fu + 1) _ _ = f_X12_bestDay_L4 _ _ _ fu _ _
    have hc : e.1 94 (20 * s + i) = nI (g s i) := (hD.2.1.1 s i hs (by omega)).2
    have hlt : pn_am (g s) i < M 0 1 := pn_am_lt' hi
    have hc2 : e.1 94 (20 * s + pn_am (g s) i) = nI (g s (pn_am (g s) i)) := (hD.2.1.1 s _ hs (by omega)).2
    have g1 := hD.2.1.2.2.1 s i
    have g2 := hD.2.1.2.2.1 s (pn_am (g s) i)
    rw [f_X12_bestDay_L4, pl_0, pn_rI (by omega) (by omega), r0, pb_s, if_neg (nI_ge hi (by omega)), pm_cell2, pb_s, pn_rI (by omega) (by omega), pb_s, pm_cell2, pb_s, pn_rI (by omega) (by omega), pb_s, pj_1, hc, hc2, pn_am]
    by_cases c : g s i ≤ g s (pn_am (g s) i)
    · rw [if_pos c, if_pos (nI_le c (by omega)), nI_1]
    · rw [if_neg c, if_neg (nI_ge (by omega) (by omega)), nI_1]
theorem pv_bit_1 : ∀ s, s < 5 → ∀ q, q < 5 → (pv_bit ((1 : Int32) <<< (nI s &&& 31)) q ↔ q = s) := by decide
theorem pv_tg_1 {g : Nat → Nat → Nat} {s n t : Nat} (hs : s < n) (hn : n ≤ 5) : pv_tg g ((1 : Int32) <<< (nI s &&& 31)) n t = g s t := by
  unfold pv_tg
  rw [pn_sum_one (b := s) n hs (fun i hi hne => if_neg (fun q => hne ((pv_bit_1 s (by omega) i (by omega)).mp q))), if_pos ((pv_bit_1 s (by omega) s (by omega)).mpr rfl)]
theorem pn_ok_e {v : Int32} {n : Nat} (h : pn_ok v n) : ∃ t, t < n ∧ v = nI t := by
  obtain ⟨t, h1, -, h2⟩ := pn_ok_ex h
  exact ⟨t, h1, h2⟩
theorem pz_seller (hI : pm_I d M) (hY : pz_Y d M) (v w : Int32) : pz_op d M (f_X11_seller v w) (f_X12_seller v w) := by
  have hb := pm_b hI.2.2
  by_cases e1 : pn_ok v (M 0 4)
  · obtain ⟨s, hs, hs3, rfl⟩ := pn_ok_ex e1
    obtain ⟨d1, d2, l, g, p, A1, A2, A3, A4, A5, A6, A7, A8, A9, A10, A11, A12⟩ := pz_year hI hY
    have hn : 0 < M 0 1 := by omega
    have hy2 := ys_I A5
    have hst : f_X12_stockOf (nI s) d2 = some (nI (pn_sum (l s) (M 0 1))) := ys_stock hy2 hs (fun c hc => A3.1.2.1 s c hs hc)
    have h8 : d1.1 50 s = nI (pn_sum (l s) (M 0 1)) := A3.1.2.2.1 s hs
    have h9 : d1.1 51 s = nI (pn_sum (g s) (M 0 1)) := A3.2.1.2.1 s hs
    have h10 : d1.1 52 s = d2.1 96 s := A3.2.2.1 s hs
    have h11 : d1.1 53 s = d2.1 97 s := A3.2.2.2.1 s hs
    have hag := pz_allGets hy2 A3 hs
    have hbd := pz_bestDay hy2 A3 hs hn
    have hri := pz_richest A3 hb.2.1 hb.2.2.2.2.1 (v := (1 : Int32) <<< (nI s &&& 31)) (fun q h1 h2 z => by have := (pv_bit_1 s (by omega) q h2).mp z; omega)
    have ham : pn_am (pv_tg g ((1 : Int32) <<< (nI s &&& 31)) (M 0 4)) (M 0 1) = pn_am (g s) (M 0 1) := pn_am_c _ (fun t _ => pv_tg_1 hs (by omega))
    rw [ham] at hri
    have hz : pn_sum (g s) (M 0 1) = 0 ↔ g s (pn_am (g s) (M 0 1)) = 0 := by
      constructor
      · intro q
        have := pn_sum_ge (f := g s) (M 0 1) (pn_am_lt (f := g s) _ hn)
        omega
      · intro q
        exact pn_sum_0 _ (fun i hi => by have := pn_am_le (f := g s) (M 0 1) i hi; omega)
    have hsl := pn_sum_le (f := g s) (K := 400000) (M 0 1) (fun i _ => A3.2.1.2.2.1 s i)
    by_cases e2 : pn_ok w 5
    · obtain ⟨j, hj, rfl⟩ := pn_ok_e e2
      have c2 : f_X12_seller (nI s) (nI j) d1 = if nI j = 0 then some (nI (pn_sum (g s) (M 0 1)), d2) else if nI j = 1 then some (d2.1 96 s, d2) else if nI j = 2 then some (d2.1 97 s, d2) else if nI j = 3 then some (nI (pn_sum (l s) (M 0 1)), d2) else some (if g s (pn_am (g s) (M 0 1)) = 0 then -1 else nI (pn_am (g s) (M 0 1)), d2) := by
        unfold f_X12_seller
        rw [pm_isSeller2 A4.2, Option.bind_some, if_pos e1, pj_0, if_neg pn_10, pn_inN _ 5 4 (by decide), Option.bind_some, if_pos e2, if_neg pn_10, A2, Option.bind_some, hag, hst, hbd, pn_rI (by omega) (by omega), pn_rI (by omega) (by omega)]
        simp only [Option.bind_some]
      have c1 : f_X11_seller (nI s) (nI j) d = if nI j = 0 then some (nI (pn_sum (g s) (M 0 1)), d1) else if nI j = 1 then some (d2.1 96 s, d1) else if nI j = 2 then some (d2.1 97 s, d1) else if nI j = 3 then some (nI (pn_sum (l s) (M 0 1)), d1) else if nI j = 4 then some (if g s (pn_am (g s) (M 0 1)) = 0 then -1 else nI (pn_am (g s) (M 0 1)), d1) else some (-2, d1) := by
        unfold f_X11_seller
        rw [pm_isSeller1 hI, Option.bind_some, if_pos e1, if_neg pn_10, A1, Option.bind_some, hri, pn_rI (by omega) (by omega), pn_rI (by omega) (by omega), pn_rI (by omega) (by omega), pn_rI (by omega) (by omega), h8, h9, h10, h11]
        simp only [Option.bind_some, ya_b2s]
        by_cases q : pn_sum (g s) (M 0 1) = 0
        · rw [if_pos (hz.mp q), if_pos (show nI (pn_sum (g s) (M 0 1)) = 0 by rw [q]; rfl)]
        · rw [if_neg (fun z => q (hz.mpr z)), if_neg (show ¬ nI (pn_sum (g s) (M 0 1)) = 0 from nI_ne0 (by omega) (by omega))]
      unfold pz_op
      rw [c1]
      rcases (show j = 0 ∨ j = 1 ∨ j = 2 ∨ j = 3 ∨ j = 4 by omega) with rfl | rfl | rfl | rfl | rfl
      all_goals
        refine ⟨_, d1, d2, M, rfl, ?_, A5, A7, A9⟩
        rw [c2]
        rfl
    · unfold pz_op
      refine ⟨-2, d1, d1, M, ?_, ?_, A4, A6, A8⟩
      · unfold f_X11_seller
        rw [pm_isSeller1 hI, Option.bind_some, if_pos e1, if_neg pn_10, A1, Option.bind_some, if_neg (fun q => e2 (by rw [q]; decide)), if_neg (fun q => e2 (by rw [q]; decide)), if_neg (fun q => e2 (by rw [q]; decide)), if_neg (fun q => e2 (by rw [q]; decide)), if_neg (fun q => e2 (by rw [q]; decide))]
      · unfold f_X12_seller
        rw [pm_isSeller2 A4.2, Option.bind_some, if_pos e1, pj_0, if_neg pn_10, pn_inN _ 5 4 (by decide), Option.bind_some, if_neg e2, if_pos rfl]
  · refine pz_no hI hY (r := -2) ?_ ?_
    · unfold f_X11_seller
      rw [pm_isSeller1 hI, Option.bind_some, if_neg e1, if_pos rfl]
    · unfold f_X12_seller
      rw [pm_isSeller2 hI.2, Option.bind_some, if_neg e1, pj_0, if_pos rfl]
end

/-! buyer, rich, village -/
/-- a sum of Int32 -/
def pn_sumI (f : Nat → Int32) : Nat → Int32
  | 0 => nI 0
  | n + 1 => pn_sumI f n + f n
theorem pn_sumI_c {f g : Nat → Int32} : ∀ n, (∀ i, i < n → f i = g i) → pn_sumI f n = pn_sumI g n
  | 0, _ => rfl
  | n + 1, h => by rw [pn_sumI, pn_sumI, pn_sumI_c n (fun i hi => h i (by omega)), h n (by omega)]
section
variable {d e : ya_D} {M M' : pm_M}
theorem pz_buyer (hI : pm_I d M) (hY : pz_Y d M) (v w : Int32) : pz_op d M (f_X11_buyer v w) (f_X12_buyer v w) := by
  have hb := pm_b hI.2.2
  by_cases e1 : pn_ok v (M 0 5)
  · obtain ⟨s, hs, hs3, rfl⟩ := pn_ok_ex e1
    obtain ⟨d1, d2, l, g, p, A1, A2, A3, A4, A5, A6, A7, A8, A9, A10, A11, A12⟩ := pz_year hI hY
    have h12 : d1.1 54 s = d2.1 98 s := A3.2.2.2.2.2.1.1 s hs
    have h13 : d1.1 55 s = nI (p s) ∧ d2.1 99 s = nI (p s) := A3.2.2.2.2.2.1.2.1 s hs
    obtain ⟨c0, c1, c2, c3, c4, c5⟩ := (pk_c A4.1).2.2.2.2.2.2.2.2.2.2 s hs
    obtain ⟨r0, r1, r2, r3, r4, r5⟩ := (pk_r A5.2.1).2.2.2.2.2.2.2.2.2.2 s hs
    by_cases e2 : pn_ok w 3
    · obtain ⟨j, hj, rfl⟩ := pn_ok_e e2
      have f2 : f_X12_buyer (nI s) (nI j) d1 = if nI j = 0 then some (d2.1 98 s, d2) else if nI j = 1 then some (nI (p s), d2) else some (nI (M 10 s) * (nI (M 13 s) - nI (M 12 s) + 1) - nI (p s), d2) := by
        unfold f_X12_buyer
        rw [pm_isBuyer2 A4.2, Option.bind_some, if_pos e1, pj_0, if_neg pn_10, pn_inN _ 3 2 (by decide), Option.bind_some, if_pos e2, if_neg pn_10, A2, Option.bind_some, pn_rI (by omega) (by omega), pn_rI (by omega) (by omega), show (1 : Int32) = nI 1 from rfl, show (4 : Int32) = nI 4 from rfl, show (3 : Int32) = nI 3 from rfl, pk_of (by omega), pk_of (by omega), pk_of (by omega), r1, r3, r4, h13.2]
        simp only [Option.bind_some]
      have f1 : f_X11_buyer (nI s) (nI j) d = if nI j = 0 then some (d2.1 98 s, d1) else if nI j = 1 then some (nI (p s), d1) else if nI j = 2 then some (nI (M 10 s) * (nI (M 13 s) - nI (M 12 s) + 1) - nI (p s), d1) else some (-2, d1) := by
        unfold f_X11_buyer f_X1_wantsInAll
        rw [pm_isBuyer1 hI, Option.bind_some, if_pos e1, if_neg pn_10, A1, Option.bind_some]
        simp (disch := omega) only [pn_rI, Nat.reduceAdd, h12, h13.1, c1, c3, c4, Option.bind_some]
      unfold pz_op
      rw [f1]
      rcases (show j = 0 ∨ j = 1 ∨ j = 2 by omega) with rfl | rfl | rfl
      all_goals
        refine ⟨_, d1, d2, M, rfl, ?_, A5, A7, A9⟩
        rw [f2]
        rfl
    · unfold pz_op
      refine ⟨-2, d1, d1, M, ?_, ?_, A4, A6, A8⟩
      · unfold f_X11_buyer
        rw [pm_isBuyer1 hI, Option.bind_some, if_pos e1, if_neg pn_10, A1, Option.bind_some, if_neg (fun q => e2 (by rw [q]; decide)), if_neg (fun q => e2 (by rw [q]; decide)), if_neg (fun q => e2 (by rw [q]; decide))]
      · unfold f_X12_buyer
        rw [pm_isBuyer2 A4.2, Option.bind_some, if_pos e1, pj_0, if_neg pn_10, pn_inN _ 3 2 (by decide), Option.bind_some, if_neg e2, if_pos rfl]
  · refine pz_no hI hY (r := -2) ?_ ?_
    · unfold f_X11_buyer
      rw [pm_isBuyer1 hI, Option.bind_some, if_neg e1, if_pos rfl]
    · unfold f_X12_buyer
      rw [pm_isBuyer2 hI.2, Option.bind_some, if_neg e1, pj_0, if_pos rfl]
/-- days without sale -/
def pv_nos (r : Nat → Int32) (nT n : Nat) : Nat := pn_sum (fun t => if pn_sumI (fun x => r (20 * x + t)) nT = 0 then 1 else 0) n
theorem pz_nosale (hI : pm_I d M) : f_X10_daysWithoutSale 42 24 d = some (nI (pv_nos (d.1 45) (M 0 3) (M 0 1))) := by
  have hb := pm_b hI.2.2
  unfold f_X10_daysWithoutSale
  refine pn_lp (G := fun fu i => f_X10_daysWithoutSale_L4 42 24 d fu (nI (pv_nos (d.1 45) (M 0 3) i)) (nI i)) (n := M 0 1) (fun fu => ?_) (fun fu i hi => ?_) ya_F 0 (by omega) (by unfold ya_F; omega)
  · show f_X10_daysWithoutSale_L4 _ _ _ (fu + 1) _ _ = _
    rw [f_X10_daysWithoutSale_L4, (pk_c hI.1).2.1, if_pos (nI_le (Nat.le_refl _) (by omega))]
  · show f_X10_daysWithoutSale_L4 _ _ _ (fu + 1) _ _ = f_X10_daysWithoutSale_L4 _ _ _ fu _ _
    have inner : ∀ (k : Int32 → Option Int32) (v2 : Int32), f_X10_daysWithoutSale_L18 42 24 v2 (nI i) d k ya_F (nI 0) (nI 0) = k (pn_sumI (fun x => d.1 45 (20 * x + i)) (M 0 3)) := by
      intro k v2
      refine pn_lp (G := fun fu j => f_X10_daysWithoutSale_L18 42 24 v2 (nI i) d k fu (pn_sumI (fun x => d.1 45 (20 * x + i)) j) (nI j)) (n := M 0 3) (fun fu => ?_) (fun fu j hj => ?_) ya_F 0 (by omega) (by unfold ya_F; omega)
      · show f_X10_daysWithoutSale_L18 _ _ _ _ _ _ (fu + 1) _ _ = _
        rw [f_X10_daysWithoutSale_L18, (pk_c hI.1).2.2.2.1, if_pos (nI_le (Nat.le_refl _) (by omega))]
      · show f_X10_daysWithoutSale_L18 _ _ _ _ _ _ (fu + 1) _ _ = f_X10_daysWithoutSale_L18 _ _ _ _ _ _ fu _ _
        rw [f_X10_daysWithoutSale_L18, (pk_c hI.1).2.2.2.1, if_neg (nI_ge hj (by omega)), pm_cell1, Option.bind_some, pn_rI (by omega) (by omega), Option.bind_some, nI_1, pn_sumI]
    have q : pv_nos (d.1 45) (M 0 3) (i + 1) = pv_nos (d.1 45) (M 0 3) i + if pn_sumI (fun x => d.1 45 (20 * x + i)) (M 0 3) = 0 then 1 else 0 := rfl
    rw [f_X10_daysWithoutSale_L4, (pk_c hI.1).2.1, if_neg (nI_ge hi (by omega)), pl_0, inner, pj_1, q]
    by_cases c : pn_sumI (fun x => d.1 45 (20 * x + i)) (M 0 3) = 0
    · rw [if_pos c, if_pos (by rw [c]; rfl), nI_1, nI_1]
    · rw [if_neg c, if_neg (fun z => c (by rw [z]; rfl)), nI_1]
      rfl
/-- the reference: money of a day, what is sold on a day -/
theorem pz_money {l g : Nat → Nat → Nat} {p : Nat → Nat} {a : Nat} (h : ys e M M') (hD : yr_D M a (M 0 1) l g p d e) {t : Nat} (ht : t < M 0 1) : f_X12_moneyOn (nI t) e = some (nI (pn_sum (fun s => g s t) (M 0 4))) := by
  obtain ⟨⟨b0, b1, b2, b3, b4, b5⟩, -, -, -, -, -⟩ := pk_w h.2.1
  have r0 := (ys_n h).2.2.1
  unfold f_X12_moneyOn
  refine pn_lp (G := fun fu i => f_X12_moneyOn_L4 (nI t) e fu (nI (pn_sum (fun s => g s t) i)) (nI i)) (n := M 0 4) (fun fu => ?_) (fun fu i hi => ?_) ya_F 0 (by omega) (by unfold ya_F; omega)
  · show f_X12_moneyOn_L4 _ _ (fu + 1) _ _ = _
    rw [f_X12_moneyOn_L4]
    simp (disch := omega) only [pl_0, pl_1, pl_2, pl_3, pl_4, pl_5, pl_6, pl_7, pl_8, pl_9, pl_10, pl_11, pl_12, pl_20, pl_24, pl_30, pl_31, pl_60, pl_99, pl_100, pl_111, pl_211, pl_311, pl_326, pl_400, pl_426, pb_s, ya_b2s, pj_0, pj_1, pj_2, pj_3, pb_pI, pb_pL, pm_cell1, pm_cell2, nI_add, pn_mul, pn_sub, pn_rI, pn_wI, pn_eq, pn_le, pn_lt, pm_min, pn_o, pn_e, pn_sI2, Nat.zero_add, Nat.add_zero, r0, Nat.le_refl, if_true]
  · show f_X12_moneyOn_L4 _ _ (fu + 1) _ _ = f_X12_moneyOn_L4 _ _ fu _ _
    have hc : e.1 94 (20 * i + t) = nI (g i t) := (hD.2.1.1 i t hi (by omega)).2
    rw [f_X12_moneyOn_L4, pn_sum]
    simp (disch := omega) only [pl_0, pl_1, pl_2, pl_3, pl_4, pl_5, pl_6, pl_7, pl_8, pl_9, pl_10, pl_11, pl_12, pl_20, pl_24, pl_30, pl_31, pl_60, pl_99, pl_100, pl_111, pl_211, pl_311, pl_326, pl_400, pl_426, pb_s, ya_b2s, pj_0, pj_1, pj_2, pj_3, pb_pI, pb_pL, pm_cell1, pm_cell2, nI_add, pn_mul, pn_sub, pn_rI, pn_wI, pn_eq, pn_le, pn_lt, pm_min, pn_o, pn_e, pn_sI2, Nat.zero_add, Nat.add_zero, r0, if_neg (Nat.not_le.mpr hi), hc]
theorem pz_soldOn (h : ys e M M') {t : Nat} (ht : t < M 0 1) : f_X12_soldOn (nI t) e = some (pn_sumI (fun x => e.1 93 (20 * x + t)) (M 0 3)) := by
  obtain ⟨⟨b0, b1, b2, b3, b4, b5⟩, -, -, -, -, -⟩ := pk_w h.2.1
  have r0 := (ys_n h).2.1
  unfold f_X12_soldOn
  refine pn_lp (G := fun fu i => f_X12_soldOn_L4 (nI t) e fu (pn_sumI (fun x => e.1 93 (20 * x + t)) i) (nI i)) (n := M 0 3) (fun fu => ?_) (fun fu i hi => ?_) ya_F 0 (by omega) (by unfold ya_F; omega)
  · show f_X12_soldOn_L4 _ _ (fu + 1) _ _ = _
    rw [f_X12_soldOn_L4]
    simp (disch := omega) only [pl_0, pl_1, pl_2, pl_3, pl_4, pl_5, pl_6, pl_7, pl_8, pl_9, pl_10, pl_11, pl_12, pl_20, pl_24, pl_30, pl_31, pl_60, pl_99, pl_100, pl_111, pl_211, pl_311, pl_326, pl_400, pl_426, pb_s, ya_b2s, pj_0, pj_1, pj_2, pj_3, pb_pI, pb_pL, pm_cell1, pm_cell2, nI_add, pn_mul, pn_sub, pn_rI, pn_wI, pn_eq, pn_le, pn_lt, pm_min, pn_o, pn_e, pn_sI2, Nat.zero_add, Nat.add_zero, r0, Nat.le_refl, if_true]
  · show f_X12_soldOn_L4 _ _ (fu + 1) _ _ = f_X12_soldOn_L4 _ _ fu _ _
    rw [f_X12_soldOn_L4, pn_sumI]
    simp (disch := omega) only [pl_0, pl_1, pl_2, pl_3, pl_4, pl_5, pl_6, pl_7, pl_8, pl_9, pl_10, pl_11, pl_12, pl_20, pl_24, pl_30, pl_31, pl_60, pl_99, pl_100, pl_111, pl_211, pl_311, pl_326, pl_400, pl_426, pb_s, ya_b2s, pj_0, pj_1, pj_2, pj_3, pb_pI, pb_pL, pm_cell1, pm_cell2, nI_add, pn_mul, pn_sub, pn_rI, pn_wI, pn_eq, pn_le, pn_lt, pm_min, pn_o, pn_e, pn_sI2, Nat.zero_add, Nat.add_zero, r0, if_neg (Nat.not_le.mpr hi)]
theorem pv_bit_all : ∀ n, n < 6 → ∀ q, q < n → pv_bit (((1 : Int32) <<< (nI n &&& 31)) - 1) q := by decide
theorem pv_tg_all {g : Nat → Nat → Nat} {n t : Nat} (hn : n ≤ 5) : pv_tg g (((1 : Int32) <<< (nI n &&& 31)) - 1) n t = pn_sum (fun s => g s t) n :=
  pn_sum_c n (fun s hs => if_pos (pv_bit_all n (by omega) s hs))
theorem pz_rich_loop {l g : Nat → Nat → Nat} {p : Nat → Nat} {a : Nat} (h : ys e M M') (hD : yr_D M a (M 0 1) l g p d e) (v : Int32) (k : Int32 → Int32 → Option (Int32 × ya_D)) : f_X12_rich_L34 v e k ya_F (nI 0) (nI 0) (nI 0) = k (nI (pn_am (fun t => pn_sum (fun s => g s t) (M 0 4)) (M 0 1))) (nI (pv_nos (e.1 93) (M 0 3) (M 0 1))) := by
  obtain ⟨⟨b0, b1, b2, b3, b4, b5⟩, -, -, -, -, -⟩ := pk_w h.2.1
  have r0 := (ys_n h).1
  have hle : ∀ t, pn_sum (fun s => g s t) (M 0 4) ≤ 400000 * M 0 4 := fun t => pn_sum_le _ (fun s _ => hD.2.1.2.2.1 s t)
  refine pn_lp (G := fun fu i => f_X12_rich_L34 v e k fu (nI (pn_am (fun t => pn_sum (fun s => g s t) (M 0 4)) i)) (nI (pv_nos (e.1 93) (M 0 3) i)) (nI i)) (n := M 0 1) (fun fu => ?_) (fun fu i hi => ?_) ya_F 0 (by omega) (by unfold ya_F; omega)
  · show f_X12_rich_L34 _ _ _ (fu + 1) _ _ _ = _
    rw [f_X12_rich_L34]
    simp (disch := omega) only [pl_0, pl_1, pl_2, pl_3, pl_4, pl_5, pl_6, pl_7, pl_8, pl_9, pl_10, pl_11, pl_12, pl_20, pl_24, pl_30, pl_31, pl_60, pl_99, pl_100, pl_111, pl_211, pl_311, pl_326, pl_400, pl_426, pb_s, ya_b2s, pj_0, pj_1, pj_2, pj_3, pb_pI, pb_pL, pm_cell1, pm_cell2, nI_add, pn_mul, pn_sub, pn_rI, pn_wI, pn_eq, pn_le, pn_lt, pm_min, pn_o, pn_e, pn_sI2, Nat.zero_add, Nat.add_zero, r0, Nat.le_refl, if_true]
  · show f_X12_rich_L34 _ _ _ (fu + 1) _ _ _ = f_X12_rich_L34 _ _ _ fu _ _ _
    have q : pv_nos (e.1 93) (M 0 3) (i + 1) = pv_nos (e.1 93) (M 0 3) i + if pn_sumI (fun x => e.1 93 (20 * x + i)) (M 0 3) = 0 then 1 else 0 := rfl
    have g1 := hle i
    have g2 := hle (pn_am (fun t => pn_sum (fun s => g s t) (M 0 4)) i)
    rw [f_X12_rich_L34, pl_0, pn_rI (by omega) (by omega), r0, pb_s, if_neg (nI_ge hi (by omega)), pz_money h hD hi, pb_s, pz_money h hD (pn_am_lt' hi), pb_s, pj_1, pz_soldOn h hi, q, pn_am]
    simp only [pb_s, pj_1]
    by_cases c : pn_sum (fun s => g s i) (M 0 4) ≤ pn_sum (fun s => g s (pn_am (fun t => pn_sum (fun s => g s t) (M 0 4)) i)) (M 0 4)
    · rw [if_pos c, if_pos (nI_le c (by omega))]
      by_cases c2 : pn_sumI (fun x => e.1 93 (20 * x + i)) (M 0 3) = 0
      · rw [if_pos c2, if_pos (by rw [c2]; rfl), nI_1, nI_1]
      · rw [if_neg c2, if_neg (fun z => c2 (by rw [z]; rfl)), nI_z, nI_1]
        rfl
    · rw [if_neg c, if_neg (nI_ge (by omega) (by omega))]
      by_cases c2 : pn_sumI (fun x => e.1 93 (20 * x + i)) (M 0 3) = 0
      · rw [if_pos c2, if_pos (by rw [c2]; rfl), nI_1, nI_1]
      · rw [if_neg c2, if_neg (fun z => c2 (by rw [z]; rfl)), nI_z, nI_1]
        rfl
theorem pv_bit_none : ∀ n, n < 6 → ∀ q, q < 5 → n ≤ q → ¬ pv_bit (((1 : Int32) <<< (nI n &&& 31)) - 1) q := by decide
theorem pz_rich (hI : pm_I d M) (hY : pz_Y d M) (w : Int32) : pz_op d M (f_X11_rich w) (f_X12_rich w) := by
  have hb := pm_b hI.2.2
  by_cases e1 : M 0 1 = 0
  · refine pz_no hI hY (r := -2) ?_ ?_
    · unfold f_X11_rich
      rw [pm_isMarket1 hI, Option.bind_some, if_pos e1, if_pos rfl]
    · unfold f_X12_rich
      rw [pm_isMarket2 hI.2, Option.bind_some, if_pos e1, pj_0, if_pos rfl]
  · obtain ⟨d1, d2, l, g, p, A1, A2, A3, A4, A5, A6, A7, A8, A9, A10, A11, A12⟩ := pz_year hI hY
    have hn : 0 < M 0 1 := by omega
    have hy2 := ys_I A5
    have hag : ∀ t, pv_tg g (((1 : Int32) <<< (nI (M 0 4) &&& 31)) - 1) (M 0 4) t = pn_sum (fun s => g s t) (M 0 4) := fun t => pv_tg_all hb.2.2.2.2.1
    have ham : pn_am (pv_tg g (((1 : Int32) <<< (nI (M 0 4) &&& 31)) - 1) (M 0 4)) (M 0 1) = pn_am (fun t => pn_sum (fun s => g s t) (M 0 4)) (M 0 1) := pn_am_c _ (fun t _ => hag t)
    have hv : ∀ q, M 0 4 ≤ q → q < 5 → ¬ pv_bit (((1 : Int32) <<< (nI (M 0 4) &&& 31)) - 1) q := fun q h1 h2 => pv_bit_none (M 0 4) (by omega) q h2 h1
    have hri := pz_richest A3 hb.2.1 hb.2.2.2.2.1 hv
    have hlt := pn_am_lt (f := fun t => pn_sum (fun s => g s t) (M 0 4)) _ hn
    have hta := pz_takings A3 hb.2.2.2.2.1 hv (t := pn_am (fun t => pn_sum (fun s => g s t) (M 0 4)) (M 0 1)) (by omega)
    rw [ham] at hri
    rw [hag] at hta
    have hmo := pz_money hy2 A3 (pn_am_lt (f := fun t => pn_sum (fun s => g s t) (M 0 4)) _ hn)
    have hnos := pz_nosale A4
    have hW : pv_nos (d1.1 45) (M 0 3) (M 0 1) = pv_nos (d2.1 93) (M 0 3) (M 0 1) := by
      refine pn_sum_c _ (fun t ht => ?_)
      rw [pn_sumI_c (f := fun x => d1.1 45 (20 * x + t)) (g := fun x => d2.1 93 (20 * x + t)) (M 0 3) (fun x hx => (A3.2.2.2.2.2.2.1 x t hx ht ht).2.2)]
    rw [hW] at hnos
    have hlot : d1.1 42 15 = d2.1 83 27 := A3.2.2.2.2.2.1.2.2.1
    have hn30' : d1.1 30 0 = nI (M 0 4) := (pk_c A4.1).2.2.2.2.1
    have hn24' : d1.1 24 1 = nI (M 0 1) := (pk_c A4.1).2.1
    by_cases e2 : pn_ok w 4
    · obtain ⟨j, hj, rfl⟩ := pn_ok_e e2
      have f2 : f_X12_rich (nI j) d1 = if nI j = 0 then (if nI (pv_nos (d2.1 93) (M 0 3) (M 0 1)) = nI (M 0 1) then some (-1, d2) else some (nI (pn_am (fun t => pn_sum (fun s => g s t) (M 0 4)) (M 0 1)), d2)) else if nI j = 1 then some (nI (pn_sum (fun s => g s (pn_am (fun t => pn_sum (fun s => g s t) (M 0 4)) (M 0 1))) (M 0 4)), d2) else if nI j = 2 then some (nI (pv_nos (d2.1 93) (M 0 3) (M 0 1)), d2) else some (d2.1 83 27, d2) := by
        unfold f_X12_rich
        rw [pm_isMarket2 A4.2, Option.bind_some, if_neg e1, pj_0, if_neg pn_10, pn_inN _ 4 3 (by decide), Option.bind_some, if_pos e2, if_neg pn_10, A2, Option.bind_some, pl_0, pz_rich_loop hy2 A3, pn_rI (by omega) (by omega), (ys_n hy2).1, hmo]
        simp only [Option.bind_some]
      have f1 : f_X11_rich (nI j) d = if nI j = 0 then (if nI (pv_nos (d2.1 93) (M 0 3) (M 0 1)) = nI (M 0 1) then some (-1, d1) else some (nI (pn_am (fun t => pn_sum (fun s => g s t) (M 0 4)) (M 0 1)), d1)) else if nI j = 1 then some (nI (pn_sum (fun s => g s (pn_am (fun t => pn_sum (fun s => g s t) (M 0 4)) (M 0 1))) (M 0 4)), d1) else if nI j = 2 then some (nI (pv_nos (d2.1 93) (M 0 3) (M 0 1)), d1) else if nI j = 3 then some (d2.1 83 27, d1) else some (-2, d1) := by
        unfold f_X11_rich
        rw [pm_isMarket1 hI, Option.bind_some, if_neg e1, if_neg pn_10, A1, Option.bind_some, hnos, hn30', hri, pb_s, pb_s, pb_s, hta, pb_s, pb_s, hn24', hlot]
      unfold pz_op
      rw [f1]
      rcases (show j = 0 ∨ j = 1 ∨ j = 2 ∨ j = 3 by omega) with rfl | rfl | rfl | rfl
      · by_cases c : nI (pv_nos (d2.1 93) (M 0 3) (M 0 1)) = nI (M 0 1)
        · rw [if_pos c] at f2 ⊢
          refine ⟨_, d1, d2, M, rfl, ?_, A5, A7, A9⟩
          rw [f2]
          rfl
        · rw [if_neg c] at f2 ⊢
          refine ⟨_, d1, d2, M, rfl, ?_, A5, A7, A9⟩
          rw [f2]
          rfl
      all_goals
        refine ⟨_, d1, d2, M, rfl, ?_, A5, A7, A9⟩
        rw [f2]
        rfl
    · unfold pz_op
      refine ⟨-2, d1, d1, M, ?_, ?_, A4, A6, A8⟩
      · unfold f_X11_rich
        rw [pm_isMarket1 hI, Option.bind_some, if_neg e1, if_neg pn_10, A1, Option.bind_some, if_neg (fun q => e2 (by rw [q]; decide)), if_neg (fun q => e2 (by rw [q]; decide)), if_neg (fun q => e2 (by rw [q]; decide)), if_neg (fun q => e2 (by rw [q]; decide))]
      · unfold f_X12_rich
        rw [pm_isMarket2 A4.2, Option.bind_some, if_neg e1, pj_0, if_neg pn_10, pn_inN _ 4 3 (by decide), Option.bind_some, if_neg e2, if_pos rfl]
/-! village -/
theorem pv_pow : ∀ n, n < 6 → (1 : Int32) <<< (nI n &&& 31) = nI (2 ^ n) := by decide
theorem pz_villageOn {l g : Nat → Nat → Nat} {p : Nat → Nat} {a : Nat} (h : ys e M M') (hD : yr_D M a (M 0 1) l g p d e) (v : Int32) {t : Nat} (ht : t < M 0 1) : f_X12_villageOn v (nI t) e = some (nI (pv_tg g v (M 0 4) t)) := by
  obtain ⟨⟨b0, b1, b2, b3, b4, b5⟩, -, -, -, -, -⟩ := pk_w h.2.1
  have r0 := (ys_n h).2.2.1
  unfold f_X12_villageOn
  refine pn_lp (G := fun fu i => f_X12_villageOn_L5 v (nI t) e fu (nI (pv_tg g v i t)) (nI i)) (n := M 0 4) (fun fu => ?_) (fun fu i hi => ?_) ya_F 0 (by omega) (by unfold ya_F; omega)
  · show f_X12_villageOn_L5 _ _ _ (fu + 1) _ _ = _
    rw [f_X12_villageOn_L5]
    simp (disch := omega) only [pl_0, pl_1, pl_2, pl_3, pl_4, pl_5, pl_6, pl_7, pl_8, pl_9, pl_10, pl_11, pl_12, pl_20, pl_24, pl_30, pl_31, pl_60, pl_99, pl_100, pl_111, pl_211, pl_311, pl_326, pl_400, pl_426, pb_s, ya_b2s, pj_0, pj_1, pj_2, pj_3, pb_pI, pb_pL, pm_cell1, pm_cell2, nI_add, pn_mul, pn_sub, pn_rI, pn_wI, pn_eq, pn_le, pn_lt, pm_min, pn_o, pn_e, pn_sI2, Nat.zero_add, Nat.add_zero, r0, Nat.le_refl, if_true]
  · show f_X12_villageOn_L5 _ _ _ (fu + 1) _ _ = f_X12_villageOn_L5 _ _ _ fu _ _
    have hc : e.1 94 (20 * i + t) = nI (g i t) := (hD.2.1.1 i t hi (by omega)).2
    have q : pv_tg g v (i + 1) t = pv_tg g v i t + if pv_bit v i then g i t else 0 := rfl
    rw [f_X12_villageOn_L5, show (2 : Int32) = nI 2 from rfl, pn_rI (by omega) (by omega), r0, pb_s, if_neg (nI_ge hi (by omega)), q, pj_1]
    by_cases c : pv_bit v i
    · rw [if_pos c, if_pos c, pm_cell2, pb_s, pn_rI (by omega) (by omega), pb_s, hc]
      simp only [nI_add, nI_1]
    · rw [if_neg c, if_neg c, show (0 : Int32) = nI 0 from rfl]
      simp only [nI_add, nI_1]
theorem pz_village2 {l g : Nat → Nat → Nat} {p : Nat → Nat} {a : Nat} (h : ys e M M') (hD : yr_D M a (M 0 1) l g p d e) (v w : Int32) (k : Int32 → Int32 → Option (Int32 × ya_D)) : f_X12_village_L55 v w e k ya_F (nI 0) (nI 0) (nI 0) = k (nI (pn_am (pv_tg g v (M 0 4)) (M 0 1))) (nI (pn_sum (pv_tg g v (M 0 4)) (M 0 1))) := by
  obtain ⟨⟨b0, b1, b2, b3, b4, b5⟩, -, -, -, -, -⟩ := pk_w h.2.1
  have r0 := (ys_n h).1
  refine pn_lp (G := fun fu i => f_X12_village_L55 v w e k fu (nI (pn_am (pv_tg g v (M 0 4)) i)) (nI (pn_sum (pv_tg g v (M 0 4)) i)) (nI i)) (n := M 0 1) (fun fu => ?_) (fun fu i hi => ?_) ya_F 0 (by omega) (by unfold ya_F; omega)
  · show f_X12_village_L55 _ _ _ _ (fu + 1) _ _ _ = _
    rw [f_X12_village_L55]
    simp (disch := omega) only [pl_0, pl_1, pl_2, pl_3, pl_4, pl_5, pl_6, pl_7, pl_8, pl_9, pl_10, pl_11, pl_12, pl_20, pl_24, pl_30, pl_31, pl_60, pl_99, pl_100, pl_111, pl_211, pl_311, pl_326, pl_400, pl_426, pb_s, ya_b2s, pj_0, pj_1, pj_2, pj_3, pb_pI, pb_pL, pm_cell1, pm_cell2, nI_add, pn_mul, pn_sub, pn_rI, pn_wI, pn_eq, pn_le, pn_lt, pm_min, pn_o, pn_e, pn_sI2, Nat.zero_add, Nat.add_zero, r0, Nat.le_refl, if_true]
  · show f_X12_village_L55 _ _ _ _ (fu + 1) _ _ _ = f_X12_village_L55 _ _ _ _ fu _ _ _
    have g1 := pv_tg_le (v := v) (n := M 0 4) (t := i) hD.2.1.2.2.1
    have g2 := pv_tg_le (v := v) (n := M 0 4) (t := pn_am (pv_tg g v (M 0 4)) i) hD.2.1.2.2.1
    rw [f_X12_village_L55, pl_0, pn_rI (by omega) (by omega), r0, pb_s, if_neg (nI_ge hi (by omega)), pz_villageOn h hD v hi, pb_s, pz_villageOn h hD v (pn_am_lt' hi), pb_s, pj_1, pn_am, pn_sum]
    simp only [pb_s, nI_add, nI_1]
    by_cases c : pv_tg g v (M 0 4) i ≤ pv_tg g v (M 0 4) (pn_am (pv_tg g v (M 0 4)) i)
    · rw [if_pos c, if_pos (nI_le c (by omega))]
    · rw [if_neg c, if_neg (nI_ge (by omega) (by omega))]
theorem pv_bit_pow : ∀ n, n < 6 → ∀ j, j < 2 ^ n → ∀ q, q < 5 → n ≤ q → ¬ pv_bit (nI j) q := by decide +kernel
theorem pz_village1 {l g : Nat → Nat → Nat} {p : Nat → Nat} (hI : pm_I d M) (hD : yr_D M 42 (M 0 1) l g p d e) {v : Int32} (hv : ∀ q, M 0 4 ≤ q → q < 5 → ¬ pv_bit v q) (w : Int32) (k : Int32 → Option (Int32 × ya_D)) : f_X11_village_L41 v w d k ya_F (nI 0) (nI 0) = k (nI (pn_sum (pv_tg g v (M 0 4)) (M 0 1))) := by
  have hb := pm_b hI.2.2
  refine pn_lp (G := fun fu i => f_X11_village_L41 v w d k fu (nI (pn_sum (pv_tg g v (M 0 4)) i)) (nI i)) (n := M 0 1) (fun fu => ?_) (fun fu i hi => ?_) ya_F 0 (by omega) (by unfold ya_F; omega)
  · show f_X11_village_L41 _ _ _ _ (fu + 1) _ _ = _
    rw [f_X11_village_L41, (pk_c hI.1).2.1, if_pos (nI_le (Nat.le_refl _) (by omega))]
  · show f_X11_village_L41 _ _ _ _ (fu + 1) _ _ = f_X11_village_L41 _ _ _ _ fu _ _
    rw [f_X11_village_L41, (pk_c hI.1).2.1, if_neg (nI_ge hi (by omega)), pz_takings hD hb.2.2.2.2.1 hv (by omega), Option.bind_some, nI_add, nI_1, pn_sum]
theorem pn_lt_ok (v : Int32) {n : Nat} (hn : n < 2 ^ 31) (A B : Option (Int32 × ya_D)) : (if v < 0 then A else if v < nI n then B else A) = if pn_ok v n then B else A := by
  have e0 : (v < 0) = (v.toInt < 0) := propext (Int32.lt_iff_toInt_lt.trans (by rw [nI_toInt0]))
  have e1 : (v < nI n) = (v.toInt < (n : Int)) := propext (Int32.lt_iff_toInt_lt.trans (by rw [nI_toInt hn]))
  simp only [e0, e1, pn_ok]
  by_cases h0 : v.toInt < 0
  · rw [if_pos h0, if_neg (by omega)]
  · rw [if_neg h0]
    by_cases h1 : v.toInt < (n : Int)
    · rw [if_pos h1, if_pos (by omega)]
    · rw [if_neg h1, if_neg (by omega)]
theorem pz_village (hI : pm_I d M) (hY : pz_Y d M) (v w : Int32) : pz_op d M (f_X11_village v w) (f_X12_village v w) := by
  have hb := pm_b hI.2.2
  by_cases e1 : M 0 1 = 0
  · refine pz_no hI hY (r := -2) ?_ ?_
    · unfold f_X11_village
      rw [pm_isMarket1 hI, Option.bind_some, if_pos e1, pj_0, if_pos rfl]
    · unfold f_X12_village
      rw [pm_isMarket2 hI.2, Option.bind_some, if_pos e1, pj_0, if_pos rfl]
  · have hpow : 2 ^ M 0 4 < 2 ^ 31 := Nat.pow_lt_pow_right (by omega) (by omega)
    have hn30 : d.1 30 0 = nI (M 0 4) := (pk_c hI.1).2.2.2.2.1
    have hr2 : ∀ z, pm_J z M → ya_rI z 84 468 2 = some (nI (M 0 4)) := fun z hz => (pn_rI (t := 2) (by omega) (by omega)).trans (congrArg some (pk_r hz.1).2.2.2.2.1)
    by_cases e2 : pn_ok v (2 ^ M 0 4)
    · obtain ⟨d1, d2, l, g, p, A1, A2, A3, A4, A5, A6, A7, A8, A9, A10, A11, A12⟩ := pz_year hI hY
      have hn : 0 < M 0 1 := by omega
      have hy2 := ys_I A5
      have hv : ∀ q, M 0 4 ≤ q → q < 5 → ¬ pv_bit v q := by
        obtain ⟨j, hj, rfl⟩ := pn_ok_e e2
        exact fun q h1 h2 => pv_bit_pow (M 0 4) (by omega) j hj q h2 h1
      have hri := pz_richest A3 hb.2.1 hb.2.2.2.2.1 hv
      have hlt := pn_am_lt (f := pv_tg g v (M 0 4)) _ hn
      have hta := pz_takings A3 hb.2.2.2.2.1 hv (t := pn_am (pv_tg g v (M 0 4)) (M 0 1)) (by omega)
      have hvo := pz_villageOn hy2 A3 v (pn_am_lt (f := pv_tg g v (M 0 4)) _ hn)
      have hv1 := pz_village1 A4 A3 hv w
      have hv2 := pz_village2 hy2 A3 v w
      have f1 : f_X11_village v w d = if w = 0 then (if nI (pn_sum (pv_tg g v (M 0 4)) (M 0 1)) = 0 then some (-1, d1) else some (nI (pn_am (pv_tg g v (M 0 4)) (M 0 1)), d1)) else if w = 1 then some (nI (pv_tg g v (M 0 4) (pn_am (pv_tg g v (M 0 4)) (M 0 1))), d1) else if w = 2 then some (nI (pn_sum (pv_tg g v (M 0 4)) (M 0 1)), d1) else some (-2, d1) := by
        unfold f_X11_village
        rw [pm_isMarket1 hI, Option.bind_some, if_neg e1, pj_0, if_neg pn_10, hn30, pv_pow _ (by omega), pn_lt_ok v hpow, if_pos e2, A1, Option.bind_some, show (0 : Int32) = nI 0 from rfl, hv1, hri, pb_s, pb_s, hta, pb_s]
      by_cases e3 : pn_ok w 3
      · have f2 : f_X12_village v w d1 = if w = 0 then (if nI (pn_sum (pv_tg g v (M 0 4)) (M 0 1)) = 0 then some (-1, d2) else some (nI (pn_am (pv_tg g v (M 0 4)) (M 0 1)), d2)) else if w = 1 then some (nI (pv_tg g v (M 0 4) (pn_am (pv_tg g v (M 0 4)) (M 0 1))), d2) else some (nI (pn_sum (pv_tg g v (M 0 4)) (M 0 1)), d2) := by
          unfold f_X12_village
          rw [pm_isMarket2 A4.2, Option.bind_some, if_neg e1, pj_0, if_neg pn_10, hr2 d1 A4.2, Option.bind_some, pv_pow _ (by omega), pn_in v hpow, Option.bind_some, if_pos e2, if_neg pn_10, pn_inN _ 3 2 (by decide), Option.bind_some, if_pos e3, if_neg pn_10, A2, Option.bind_some, show (0 : Int32) = nI 0 from rfl, hv2, hvo, Option.bind_some]
        obtain ⟨j, hj, rfl⟩ := pn_ok_e e3
        unfold pz_op
        rw [f1]
        by_cases c : nI (pn_sum (pv_tg g v (M 0 4)) (M 0 1)) = 0
        · rw [if_pos c] at f2 ⊢
          rcases (show j = 0 ∨ j = 1 ∨ j = 2 by omega) with rfl | rfl | rfl
          all_goals
            refine ⟨_, d1, d2, M, rfl, ?_, A5, A7, A9⟩
            rw [f2]
            rfl
        · rw [if_neg c] at f2 ⊢
          rcases (show j = 0 ∨ j = 1 ∨ j = 2 by omega) with rfl | rfl | rfl
          all_goals
            refine ⟨_, d1, d2, M, rfl, ?_, A5, A7, A9⟩
            rw [f2]
            rfl
      · unfold pz_op
        refine ⟨-2, d1, d1, M, ?_, ?_, A4, A6, A8⟩
        · rw [f1, if_neg (fun q => e3 (by rw [q]; decide)), if_neg (fun q => e3 (by rw [q]; decide)), if_neg (fun q => e3 (by rw [q]; decide))]
        · unfold f_X12_village
          rw [pm_isMarket2 A4.2, Option.bind_some, if_neg e1, pj_0, if_neg pn_10, hr2 d1 A4.2, Option.bind_some, pv_pow _ (by omega), pn_in v hpow, Option.bind_some, if_pos e2, if_neg pn_10, pn_inN _ 3 2 (by decide), Option.bind_some, if_neg e3, if_pos rfl]
    · refine pz_no hI hY (r := -2) ?_ ?_
      · unfold f_X11_village
        rw [pm_isMarket1 hI, Option.bind_some, if_neg e1, pj_0, if_neg pn_10, hn30, pv_pow _ (by omega), pn_lt_ok v hpow, if_neg e2]
      · unfold f_X12_village
        rw [pm_isMarket2 hI.2, Option.bind_some, if_neg e1, pj_0, if_neg pn_10, hr2 d hI.2, Option.bind_some, pv_pow _ (by omega), pn_in v hpow, Option.bind_some, if_neg e2, if_pos rfl]
end

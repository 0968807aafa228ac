/-! A buyer alone: cheapest, buys, crowd -/
/-- the class changes, the reference only reads -/
def pz_oq (d : ya_D) (M : pm_M) (f1 : ya_D → Option (Int32 × ya_D)) (f2 : ya_D → Option Int32) : Prop := ∃ (r : Int32) (d1 : ya_D), f1 d = some (r, d1) ∧ f2 d1 = some r ∧ pm_I d1 M ∧ pz_Y d1 M ∧ pz_F d d1
/-- the day on which he buys for day t: the first k days ahead tried -/
def pv_bd (P : Nat → Nat) (t : Nat) : Nat → Nat
  | 0 => t
  | k + 1 => if P (pv_bd P t k) ≤ P (t - (k + 1)) then pv_bd P t k else t - (k + 1)
theorem pv_bd_le {P : Nat → Nat} {t : Nat} : ∀ k, k ≤ t → pv_bd P t k ≤ t
  | 0, _ => Nat.le_refl _
  | k + 1, h => by
    rw [pv_bd]
    have := pv_bd_le (P := P) (t := t) k (by omega)
    split <;> omega
theorem pn_ltneg {x y z : Nat} (hx : x < 2 ^ 30) (hy : y < 2 ^ 30) (hz : z < 2 ^ 30) : nI x < nI y - nI z ↔ x + z < y := by
  rw [Int32.lt_iff_toInt_lt, nI_toInt (by omega), pk_sub_toInt hy hz]
  omega
section
variable {d e : ya_D} {M M' : pm_M}
/-- prices of a buyer's thing -/
abbrev pv_bp (M : pm_M) (b t : Nat) : Nat := M 2 (20 * M 9 b + t)
/-- the day on which buyer b buys for day t -/
def pv_by (M : pm_M) (b t : Nat) : Nat := pv_bd (pv_bp M b) t (min t (min (M 14 b) (M 1 (M 9 b))))
theorem pv_by_le {b t : Nat} : pv_by M b t ≤ t := pv_bd_le _ (by omega)
theorem pz_buyDay2 (hJ : pm_J e M) {b t : Nat} (hb : b < M 0 5) (ht : t < M 0 1) : f_X12_buyDay (nI b) (nI t) e = some (nI (pv_by M b t)) := by
  obtain ⟨⟨b0, b1, b2, b3, b4, b5⟩, w1, w2, -, -, w5⟩ := pk_w hJ.2
  have hB := w5 b hb
  have hk := w1 _ hB.1
  obtain ⟨r9, r10, r11, r12, r13, r14⟩ := (pk_r hJ.1).2.2.2.2.2.2.2.2.2.2 b hb
  unfold f_X12_buyDay
  rw [show f_X12_of (nI b) 0 e = _ from pk_of (j := 0) (by omega), pb_s, show f_X12_of (nI b) 5 e = _ from pk_of (j := 5) (by omega), pb_s, Nat.add_zero, r9, pk_keeps hJ.1 hJ.2 hB.1, pb_s, r14, pm_min (by omega) (by omega)]
  unfold pv_by
  generalize hah : min (M 14 b) (M 1 (M 9 b)) = ah
  refine pn_lp (G := fun fu k => f_X12_buyDay_L31 (nI t) (nI (M 9 b)) (nI ah) e fu (nI (pv_bd (pv_bp M b) t k)) (nI (t - k) - 1)) (n := min t ah) (fun fu => ?_) (fun fu k hk2 => ?_) ya_F 0 (by omega) (by unfold ya_F; omega)
  · show f_X12_buyDay_L31 _ _ _ _ (fu + 1) _ _ = _
    rw [f_X12_buyDay_L31]
    by_cases c : t ≤ ah
    · rw [show t - min t ah = 0 by omega, if_pos (by decide)]
    · rw [show t - min t ah = (t - ah - 1) + 1 by omega, nI_pred, if_neg (nI_pos (by omega)), if_pos ((pn_ltneg (by omega) (by omega) (by omega)).mpr (by omega))]
  · show f_X12_buyDay_L31 _ _ _ _ (fu + 1) _ _ = f_X12_buyDay_L31 _ _ _ _ fu _ _
    have hle := pv_bd_le (P := pv_bp M b) (t := t) k (by omega)
    have p1 : pv_bp M b (t - (k + 1)) ≤ 99 := (w2 (M 9 b) (t - (k + 1)) hB.1 (by omega)).1
    have p2 : pv_bp M b (pv_bd (pv_bp M b) t k) ≤ 99 := (w2 (M 9 b) (pv_bd (pv_bp M b) t k) hB.1 (by omega)).1
    rw [f_X12_buyDay_L31, show t - k = (t - (k + 1)) + 1 by omega, pn_dec, nI_pred, if_neg (nI_pos (by omega)), if_neg (fun q => by have := (pn_ltneg (by omega) (by omega) (by omega)).mp q; omega), pk_price hJ.1 hJ.2 hB.1 (by omega), pb_s, pk_price hJ.1 hJ.2 hB.1 (by omega), pb_s, pj_1, pv_bd]
    by_cases c : pv_bp M b (pv_bd (pv_bp M b) t k) ≤ pv_bp M b (t - (k + 1))
    · rw [if_pos c, if_pos (nI_le c (by omega))]
    · rw [if_neg c, if_neg (nI_ge (Nat.lt_of_not_le c) (by omega))]
theorem pz_plan74 {d' : ya_D} (hC : pm_C d 24 M) (hW : pm_W M) (hrow : ∀ a, a < 42 → d'.1 a = d.1 a) {b t : Nat} (hb : b < M 0 5) (ht : t < M 0 1) (v6 : Int32) (k : Int32 → Option (Int32 × ya_D)) : f_X0_plan_L74 24 (nI b) (nI (M 9 b)) (nI (min (M 14 b) (M 1 (M 9 b)))) v6 (nI t) d' k ya_F (nI t) (nI t - 1) = k (nI (pv_by M b t)) := by
  obtain ⟨⟨b0, b1, b2, b3, b4, b5⟩, w1, w2, -, -, w5⟩ := pk_w hW
  have hB := w5 b hb
  have hk := w1 _ hB.1
  have hc := (pk_c hC).2.2.2.2.2.2.2.1
  unfold pv_by
  generalize hah : min (M 14 b) (M 1 (M 9 b)) = ah
  refine pn_lp (G := fun fu j => f_X0_plan_L74 24 (nI b) (nI (M 9 b)) (nI ah) v6 (nI t) d' k fu (nI (pv_bd (pv_bp M b) t j)) (nI (t - j) - 1)) (n := min t ah) (fun fu => ?_) (fun fu j hk2 => ?_) ya_F 0 (by omega) (by unfold ya_F; omega)
  · show f_X0_plan_L74 _ _ _ _ _ _ _ _ (fu + 1) _ _ = _
    rw [f_X0_plan_L74]
    by_cases c : t ≤ ah
    · rw [show t - min t ah = 0 by omega, if_pos (by decide)]
    · rw [show t - min t ah = (t - ah - 1) + 1 by omega, nI_pred, if_neg (nI_pos (by omega)), if_pos ((pn_ltneg (by omega) (by omega) (by omega)).mpr (by omega))]
  · show f_X0_plan_L74 _ _ _ _ _ _ _ _ (fu + 1) _ _ = f_X0_plan_L74 _ _ _ _ _ _ _ _ fu _ _
    have hle := pv_bd_le (P := pv_bp M b) (t := t) j (by omega)
    have p1 : pv_bp M b (t - (j + 1)) ≤ 99 := (w2 (M 9 b) (t - (j + 1)) hB.1 (by omega)).1
    have p2 : pv_bp M b (pv_bd (pv_bp M b) t j) ≤ 99 := (w2 (M 9 b) (pv_bd (pv_bp M b) t j) hB.1 (by omega)).1
    rw [f_X0_plan_L74, show t - j = (t - (j + 1)) + 1 by omega, pn_dec, nI_pred, if_neg (nI_pos (by omega)), if_neg (fun q => by have := (pn_ltneg (by omega) (by omega) (by omega)).mp q; omega), pm_cell1, pb_s, pn_rI (by omega) (by omega), pb_s, pm_cell1, pb_s, pn_rI (by omega) (by omega), pb_s, pj_1, hrow (24 + 3) (by omega), (hc _ _ hB.1 (show t - (j + 1) < M 0 1 by omega)).1, (hc _ _ hB.1 (show pv_bd (pv_bp M b) t j < M 0 1 by omega)).1, pv_bd]
    by_cases c : pv_bp M b (pv_bd (pv_bp M b) t j) ≤ pv_bp M b (t - (j + 1))
    · rw [if_pos c, if_pos (nI_le c (by omega))]
    · rw [if_neg c, if_neg (nI_ge (Nat.lt_of_not_le c) (by omega))]
/-- what buyer b buys on day k, of days below n; what that costs -/
def pv_bq (M : pm_M) (b k n : Nat) : Nat := pn_sum (fun t => if M 12 b ≤ t then (if pv_by M b t = k then M 10 b else 0) else 0) n
def pv_bc (M : pm_M) (b n : Nat) : Nat := pn_sum (fun t => if M 12 b ≤ t then M 10 b * pv_bp M b (pv_by M b t) else 0) n
theorem pv_bq_le (hW : pm_W M) {b k : Nat} (hb : b < M 0 5) (n : Nat) : pv_bq M b k n ≤ 9 * n := by
  have hB := (pk_w hW).2.2.2.2.2 b hb
  exact pn_sum_le n (fun t _ => by
    split
    · split <;> omega
    · omega)
theorem pz_plan (hI : pm_I d M) {b : Nat} (hb : b < M 0 5) : ∃ d', (∀ k, k < 20 → d'.1 80 k = nI (pv_bq M b k (M 13 b + 1))) ∧ (∀ a, a ≠ 80 → d'.1 a = d.1 a) ∧ d'.2 = d.2 ∧ f_X0_plan 24 (nI b) d = some (nI (pv_bc M b (M 13 b + 1)), d') := by
  obtain ⟨⟨b0, b1, b2, b3, b4, b5⟩, w1, w2, -, -, w5⟩ := pk_w hI.2.2
  have hB := w5 b hb
  have hkp := w1 _ hB.1
  have hc := pk_c hI.1
  obtain ⟨c9, c10, c11, c12, c13, c14⟩ := hc.2.2.2.2.2.2.2.2.2.2 b hb
  have c1 := hc.2.2.2.2.2.2.1 _ hB.1
  have c2 := hc.2.2.2.2.2.2.2.1
  have key := pq_lp (G := fun fu i (s : Nat × ya_D) => f_X0_plan_L53 24 (nI b) (nI (M 9 b)) (nI (min (M 14 b) (M 1 (M 9 b)))) fu (nI s.1) (nI i) s.2) (E := fun (s : Nat × ya_D) => some (nI s.1, s.2)) (n := M 13 b + 1)
    (I := fun i s => M 12 b ≤ i ∧ s.1 = pv_bc M b i ∧ (∀ k, k < 20 → s.2.1 80 k = nI (pv_bq M b k i)) ∧ (∀ a, a ≠ 80 → s.2.1 a = d.1 a) ∧ s.2.2 = d.2)
    (Q := fun s => s.1 = pv_bc M b (M 13 b + 1) ∧ (∀ k, k < 20 → s.2.1 80 k = nI (pv_bq M b k (M 13 b + 1))) ∧ (∀ a, a ≠ 80 → s.2.1 a = d.1 a) ∧ s.2.2 = d.2)
    (fun fu s hI2 => ?_) (fun fu i s hi hI2 => ?_) ya_F (M 12 b) (0, pf d 80 20 (nI 0)) (by omega) (by unfold ya_F; omega) ⟨Nat.le_refl _, (pn_sum_0 _ (fun t ht => if_neg (by omega))).symm, fun k hk => by
      rw [pf_e ⟨rfl, hk⟩]
      exact congrArg nI (pn_sum_0 _ (fun t ht => if_neg (by omega))).symm, fun a ha => pf_n ha, rfl⟩
  · obtain ⟨s, ⟨q1, q2, q3, q4⟩, k1⟩ := key
    refine ⟨s.2, q2, q3, q4, ?_⟩
    unfold f_X0_plan
    rw [pl_0, pf_I, pb_s, pn_rI (by omega) (by omega), pb_s, pn_rI (by omega) (by omega), pb_s, pf_o (by omega), pf_o (by omega), c9, c14, pn_rI (by omega) (by omega), pb_s, pf_o (by omega), c1, pn_rI (by omega) (by omega), pb_s, pf_o (by omega), c12, pm_min (by omega) (by omega), ← q1]
    exact k1
  · obtain ⟨q0, q1, q2, q3, q4⟩ := hI2
    refine ⟨s, ⟨q1, q2, q3, q4⟩, ?_⟩
    show f_X0_plan_L53 _ _ _ _ (fu + 1) _ _ _ = _
    rw [f_X0_plan_L53, pn_rI (by omega) (by omega), pb_s, q3 _ (by omega), c13, if_pos (nI_lt (by omega) (by omega))]
  · obtain ⟨s1, s2⟩ := s
    obtain ⟨q0, q1, q2, q3, q4⟩ := hI2
    simp only at q1 q2 q3 q4
    subst q1
    right
    have hle := pv_by_le (M := M) (b := b) (t := i)
    have hy := q2 (pv_by M b i) (by omega)
    have hp := (c2 (M 9 b) (pv_by M b i) hB.1 (by omega)).1
    refine ⟨(pv_bc M b (i + 1), ya_sI s2 80 (pv_by M b i) (nI (pv_bq M b (pv_by M b i) i + M 10 b))), ⟨by omega, rfl, fun k hk => ?_, fun a ha => (rw_n ha).trans (q3 a ha), q4⟩, ?_⟩
    · have e1 : pv_bq M b k (i + 1) = pv_bq M b k i + if M 12 b ≤ i then (if pv_by M b i = k then M 10 b else 0) else 0 := rfl
      rw [e1, if_pos q0]
      by_cases c : k = pv_by M b i
      · rw [← c, pn_e ⟨rfl, rfl⟩, if_pos rfl]
      · rw [pn_o (Or.inr c), if_neg (fun q => c q.symm), Nat.add_zero]; exact q2 k hk
    · show f_X0_plan_L53 _ _ _ _ (fu + 1) _ _ _ = f_X0_plan_L53 _ _ _ _ fu _ _ _
      have e2 : pv_bc M b (i + 1) = pv_bc M b i + if M 12 b ≤ i then M 10 b * pv_bp M b (pv_by M b i) else 0 := rfl
      rw [f_X0_plan_L53, pn_rI (by omega) (by omega), pb_s, q3 _ (by omega), c13, if_neg (nI_nlt (by omega) (by omega)), pz_plan74 hI.1 hI.2.2 (fun a ha => q3 a (by omega)) hb (by omega), e2, if_pos q0]
      simp (disch := omega) only [pl_0, pl_1, pl_2, pl_3, pl_4, pl_5, pl_6, pl_7, pl_8, pl_9, pl_10, pl_11, pl_12, pl_20, pl_24, pl_30, pl_31, pl_60, pl_99, pl_100, pl_111, pl_211, pl_311, pl_326, pl_400, pl_426, pb_s, ya_b2s, pj_0, pj_1, pj_2, pj_3, pb_pI, pb_pL, pm_cell1, pm_cell2, nI_add, pn_mul, pn_sub, pn_rI, pn_wI, pn_eq, pn_le, pn_lt, pm_min, pn_o, pn_e, pn_sI2, Nat.zero_add, Nat.add_zero, Nat.reduceAdd, hy, q3, c10, hp]
theorem pz_I80 {d' : ya_D} (hI : pm_I d M) (hY : pz_Y d M) (q : ∀ a, a ≠ 80 → d'.1 a = d.1 a) (q2 : d'.2 = d.2) : pm_I d' M ∧ pz_Y d' M ∧ pz_F d d' :=
  ⟨⟨pm_C_c hI.1 (fun a k h1 h2 => congrFun (q a (by omega)) k), pm_R_c hI.2.1 (fun k => congrFun (q 84 (by omega)) k), hI.2.2⟩, pz_Y_c hY (fun a' h1 h2 => q a' (by omega)) (by rw [q2]) (congrFun (q 0 (by omega)) 9), fun a k g => congrFun (q a (by unfold pz_s at g; omega)) k, fun a k _ _ _ _ => by rw [q2]⟩
/-- the reference: what he buys on a day, what all costs -/
theorem pz_buysOn2 (hJ : pm_J e M) {b k : Nat} (hb : b < M 0 5) (hk : k < 2 ^ 31) : f_X12_buysOn (nI b) (nI k) e = some (nI (pv_bq M b k (M 13 b + 1))) := by
  obtain ⟨⟨b0, b1, b2, b3, b4, b5⟩, w1, w2, -, -, w5⟩ := pk_w hJ.2
  have hB := w5 b hb
  obtain ⟨r9, r10, r11, r12, r13, r14⟩ := (pk_r hJ.1).2.2.2.2.2.2.2.2.2.2 b hb
  have key := pq_lp (G := fun fu i (_ : Unit) => f_X12_buysOn_L10 (nI b) (nI k) e fu (nI (pv_bq M b k i)) (nI i)) (E := some) (n := M 13 b + 1) (I := fun i _ => M 12 b ≤ i) (Q := fun r => r = nI (pv_bq M b k (M 13 b + 1))) (fun fu u hI => ?_) (fun fu i u hi hI => ?_) ya_F (M 12 b) () (by omega) (by unfold ya_F; omega) (Nat.le_refl _)
  · obtain ⟨r, h1, h2⟩ := key
    have h0 : pv_bq M b k (M 12 b) = 0 := pn_sum_0 _ (fun t ht => if_neg (by omega))
    simp only [h0] at h2
    unfold f_X12_buysOn
    rw [show f_X12_of (nI b) 3 e = _ from pk_of (j := 3) (by omega), pb_s, r12, ← h1, pl_0]
    exact h2
  · refine ⟨_, rfl, ?_⟩
    show f_X12_buysOn_L10 _ _ _ (fu + 1) _ _ = _
    rw [f_X12_buysOn_L10, show f_X12_of (nI b) 4 e = _ from pk_of (j := 4) (by omega), pb_s, r13, if_pos (nI_lt (by omega) (by omega))]
  · right
    refine ⟨(), by omega, ?_⟩
    show f_X12_buysOn_L10 _ _ _ (fu + 1) _ _ = f_X12_buysOn_L10 _ _ _ fu _ _
    have e1 : pv_bq M b k (i + 1) = pv_bq M b k i + if M 12 b ≤ i then (if pv_by M b i = k then M 10 b else 0) else 0 := rfl
    have hle := pv_by_le (M := M) (b := b) (t := i)
    rw [f_X12_buysOn_L10, show f_X12_of (nI b) 4 e = _ from pk_of (j := 4) (by omega), pb_s, r13, if_neg (nI_nlt (by omega) (by omega)), pz_buyDay2 hJ hb (by omega), pb_s, pj_1, e1, if_pos hI]
    by_cases c : pv_by M b i = k
    · rw [if_pos c, if_pos (by rw [c]), show f_X12_of (nI b) 1 e = _ from pk_of (j := 1) (by omega), pb_s, r10]
      simp only [nI_add, nI_1]
    · rw [if_neg c, if_neg (fun q => c ((nI_eq (by omega) hk).mp q)), pl_0]
      simp only [nI_add, nI_1, pl_1]
theorem pz_cheapest2 (hJ : pm_J e M) {b : Nat} (hb : b < M 0 5) : f_X12_cheapest (nI b) e = some (nI (pv_bc M b (M 13 b + 1))) := by
  obtain ⟨⟨b0, b1, b2, b3, b4, b5⟩, w1, w2, -, -, w5⟩ := pk_w hJ.2
  have hB := w5 b hb
  obtain ⟨r9, r10, r11, r12, r13, r14⟩ := (pk_r hJ.1).2.2.2.2.2.2.2.2.2.2 b hb
  have key := pq_lp (G := fun fu i (_ : Unit) => f_X12_cheapest_L20 (nI b) e fu (nI (pv_bc M b i)) (nI i)) (E := some) (n := M 13 b + 1) (I := fun i _ => M 12 b ≤ i) (Q := fun r => r = nI (pv_bc M b (M 13 b + 1))) (fun fu u hI => ?_) (fun fu i u hi hI => ?_) ya_F (M 12 b) () (by omega) (by unfold ya_F; omega) (Nat.le_refl _)
  · obtain ⟨r, h1, h2⟩ := key
    have h0 : pv_bc M b (M 12 b) = 0 := pn_sum_0 _ (fun t ht => if_neg (by omega))
    simp only [h0] at h2
    unfold f_X12_cheapest
    rw [pm_isBuyer2 hJ, Option.bind_some, if_pos (pn_ok_nI hb (by omega)), if_neg pn_10, show f_X12_of (nI b) 3 e = _ from pk_of (j := 3) (by omega), pb_s, r12, ← h1, pl_0]
    exact h2
  · refine ⟨_, rfl, ?_⟩
    show f_X12_cheapest_L20 _ _ (fu + 1) _ _ = _
    rw [f_X12_cheapest_L20, show f_X12_of (nI b) 4 e = _ from pk_of (j := 4) (by omega), pb_s, r13, if_pos (nI_lt (by omega) (by omega))]
  · right
    refine ⟨(), by omega, ?_⟩
    show f_X12_cheapest_L20 _ _ (fu + 1) _ _ = f_X12_cheapest_L20 _ _ fu _ _
    have e2 : pv_bc M b (i + 1) = pv_bc M b i + if M 12 b ≤ i then M 10 b * pv_bp M b (pv_by M b i) else 0 := rfl
    have hle := pv_by_le (M := M) (b := b) (t := i)
    rw [f_X12_cheapest_L20, show f_X12_of (nI b) 4 e = _ from pk_of (j := 4) (by omega), pb_s, r13, if_neg (nI_nlt (by omega) (by omega)), show f_X12_of (nI b) 1 e = _ from pk_of (j := 1) (by omega), pb_s, r10, show f_X12_of (nI b) 0 e = _ from pk_of (j := 0) (by omega), pb_s, Nat.add_zero, r9, pz_buyDay2 hJ hb (by omega), pb_s, pk_price hJ.1 hJ.2 hB.1 (by omega), pb_s, e2, if_pos hI, pn_mul, nI_add, nI_1]
theorem pz_cheapest (hI : pm_I d M) (hY : pz_Y d M) (v : Int32) : pz_oq d M (f_X11_cheapest v) (f_X12_cheapest v) := by
  by_cases e1 : pn_ok v (M 0 5)
  · obtain ⟨b, hb, hb3, rfl⟩ := pn_ok_ex e1
    obtain ⟨d1, A1, A2, A3, A4⟩ := pz_plan hI hb
    obtain ⟨B1, B2, B3⟩ := pz_I80 hI hY A2 A3
    refine ⟨nI (pv_bc M b (M 13 b + 1)), d1, ?_, pz_cheapest2 B1.2 hb, B1, B2, B3⟩
    unfold f_X11_cheapest
    rw [pm_isBuyer1 hI, Option.bind_some, if_pos e1, if_neg pn_10, A4, ya_b2s]
  · refine ⟨-2, d, ?_, ?_, hI, hY, pz_F_r d⟩
    · unfold f_X11_cheapest
      rw [pm_isBuyer1 hI, Option.bind_some, if_neg e1, if_pos rfl]
    · unfold f_X12_cheapest
      rw [pm_isBuyer2 hI.2, Option.bind_some, if_neg e1, if_pos rfl]
theorem pz_buys (hI : pm_I d M) (hY : pz_Y d M) (v w : Int32) : pz_oq d M (f_X11_buys v w) (f_X12_buys v w) := by
  have hb5 := pm_b hI.2.2
  by_cases e1 : pn_ok v (M 0 5)
  · by_cases e2 : pn_ok w (M 0 1)
    · obtain ⟨b, hb, hb3, rfl⟩ := pn_ok_ex e1
      obtain ⟨t, ht, ht3, rfl⟩ := pn_ok_ex e2
      obtain ⟨d1, A1, A2, A3, A4⟩ := pz_plan hI hb
      obtain ⟨B1, B2, B3⟩ := pz_I80 hI hY A2 A3
      refine ⟨nI (pv_bq M b t (M 13 b + 1)), d1, ?_, ?_, B1, B2, B3⟩
      · unfold f_X11_buys
        rw [pm_isBuyer1 hI, Option.bind_some, if_pos e1, pj_0, if_neg pn_10, pm_isDay1 hI, Option.bind_some, if_pos e2, if_neg pn_10, A4, ya_b2s, pn_rI (by omega) (by omega), pb_s, A1 t (by omega)]
      · unfold f_X12_buys
        rw [pm_isBuyer2 B1.2, Option.bind_some, if_pos e1, pj_0, if_neg pn_10, pm_isDay2 B1.2, Option.bind_some, if_pos e2, if_neg pn_10, pz_buysOn2 B1.2 hb ht3, pb_s]
    · refine ⟨-2, d, ?_, ?_, hI, hY, pz_F_r d⟩
      · unfold f_X11_buys
        rw [pm_isBuyer1 hI, Option.bind_some, if_pos e1, pj_0, if_neg pn_10, pm_isDay1 hI, Option.bind_some, if_neg e2, if_pos rfl]
      · unfold f_X12_buys
        rw [pm_isBuyer2 hI.2, Option.bind_some, if_pos e1, pj_0, if_neg pn_10, pm_isDay2 hI.2, Option.bind_some, if_neg e2, if_pos rfl]
  · refine ⟨-2, d, ?_, ?_, hI, hY, pz_F_r d⟩
    · unfold f_X11_buys
      rw [pm_isBuyer1 hI, Option.bind_some, if_neg e1, pj_0, if_pos rfl]
    · unfold f_X12_buys
      rw [pm_isBuyer2 hI.2, Option.bind_some, if_neg e1, pj_0, if_pos rfl]
theorem pz_crowd (hI : pm_I d M) (hY : pz_Y d M) (v : Int32) : pz_oq d M (f_X11_crowd v) (f_X12_crowd v) := by
  have hb5 := pm_b hI.2.2
  by_cases e1 : pn_ok v (M 0 5)
  · obtain ⟨b, hb, hb3, rfl⟩ := pn_ok_ex e1
    have hB := (pk_w hI.2.2).2.2.2.2.2 b hb
    obtain ⟨d1, A1, A2, A3, A4⟩ := pz_plan hI hb
    obtain ⟨B1, B2, B3⟩ := pz_I80 hI hY A2 A3
    have h1 : pn_am (fun k => pv_bq M b k (M 13 b + 1)) 1 = 0 := by
      rw [pn_am, pn_am, if_pos (Nat.le_refl _)]
    refine ⟨nI (pn_am (fun k => pv_bq M b k (M 13 b + 1)) (M 0 1)), d1, ?_, ?_, B1, B2, B3⟩
    · unfold f_X11_crowd
      rw [pm_isBuyer1 hI, Option.bind_some, if_pos e1, if_neg pn_10, A4, ya_b2s]
      have key := pn_lp (G := fun fu i => f_X11_crowd_L28 d1 fu (nI (pn_am (fun k => pv_bq M b k (M 13 b + 1)) i)) (nI i)) (n := M 0 1) (r := some (nI (pn_am (fun k => pv_bq M b k (M 13 b + 1)) (M 0 1)), d1)) (fun fu => ?_) (fun fu i hi => ?_) ya_F 1 (by omega) (by unfold ya_F; omega)
      · simp only [h1] at key
        rw [pl_0, pl_1]; exact key
      · show f_X11_crowd_L28 _ (fu + 1) _ _ = _
        rw [f_X11_crowd_L28, (pk_c B1.1).2.1, if_pos (nI_le (Nat.le_refl _) (by omega))]
      · show f_X11_crowd_L28 _ (fu + 1) _ _ = f_X11_crowd_L28 _ fu _ _
        have hlt := pn_am_lt' (f := fun k => pv_bq M b k (M 13 b + 1)) hi
        have g1 := pv_bq_le hI.2.2 hb (k := i) (M 13 b + 1)
        have g2 := pv_bq_le hI.2.2 hb (k := pn_am (fun k => pv_bq M b k (M 13 b + 1)) i) (M 13 b + 1)
        rw [f_X11_crowd_L28, (pk_c B1.1).2.1, if_neg (nI_ge hi (by omega)), pn_rI (by omega) (by omega), pb_s, pn_rI (by omega) (by omega), pb_s, A1 _ (by omega), A1 _ (by omega), pj_1, pn_am]
        by_cases c : pv_bq M b i (M 13 b + 1) ≤ pv_bq M b (pn_am (fun k => pv_bq M b k (M 13 b + 1)) i) (M 13 b + 1)
        · rw [if_pos c, if_pos (nI_le c (by omega)), nI_1]
        · rw [if_neg c, if_neg (nI_ge (by omega) (by omega)), nI_1]
    · unfold f_X12_crowd
      rw [pm_isBuyer2 B1.2, Option.bind_some, if_pos e1, if_neg pn_10]
      have hr0 : ya_rI d1 84 468 0 = some (nI (M 0 1)) := pm_dy2 B1.2
      have key := pn_lp (G := fun fu i => f_X12_crowd_L15 (nI b) d1 fu (nI (pn_am (fun k => pv_bq M b k (M 13 b + 1)) i)) (nI i)) (n := M 0 1) (r := some (nI (pn_am (fun k => pv_bq M b k (M 13 b + 1)) (M 0 1)))) (fun fu => ?_) (fun fu i hi => ?_) ya_F 1 (by omega) (by unfold ya_F; omega)
      · simp only [h1] at key
        rw [pl_0, pl_1]; exact key
      · show f_X12_crowd_L15 _ _ (fu + 1) _ _ = _
        rw [f_X12_crowd_L15, hr0, pb_s, if_pos (nI_le (Nat.le_refl _) (by omega))]
      · show f_X12_crowd_L15 _ _ (fu + 1) _ _ = f_X12_crowd_L15 _ _ fu _ _
        have hlt := pn_am_lt' (f := fun k => pv_bq M b k (M 13 b + 1)) hi
        have g1 := pv_bq_le hI.2.2 hb (k := i) (M 13 b + 1)
        have g2 := pv_bq_le hI.2.2 hb (k := pn_am (fun k => pv_bq M b k (M 13 b + 1)) i) (M 13 b + 1)
        rw [f_X12_crowd_L15, hr0, pb_s, if_neg (nI_ge hi (by omega)), pz_buysOn2 B1.2 hb (by omega), pb_s, pz_buysOn2 B1.2 hb (by omega), pb_s, pj_1, pn_am]
        by_cases c : pv_bq M b i (M 13 b + 1) ≤ pv_bq M b (pn_am (fun k => pv_bq M b k (M 13 b + 1)) i) (M 13 b + 1)
        · rw [if_pos c, if_pos (nI_le c (by omega)), nI_1]
        · rw [if_neg c, if_neg (nI_ge (by omega) (by omega)), nI_1]
  · refine ⟨-2, d, ?_, ?_, hI, hY, pz_F_r d⟩
    · unfold f_X11_crowd
      rw [pm_isBuyer1 hI, Option.bind_some, if_neg e1, if_pos rfl]
    · unfold f_X12_crowd
      rw [pm_isBuyer2 hI.2, Option.bind_some, if_neg e1, if_pos rfl]
end

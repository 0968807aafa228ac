/-! The year, class and reference side by side: rows; what is taken; supply, stock -/
/-- a row with one place set -/
def rs (r : Nat → Int32) (k : Nat) (v : Int32) : Nat → Int32 := fun k' => if k' = k then v else r k'
theorem rs_e {r : Nat → Int32} {k k' : Nat} {v : Int32} (h : k' = k) : rs r k v k' = v := if_pos h
theorem rs_n {r : Nat → Int32} {k k' : Nat} {v : Int32} (h : k' ≠ k) : rs r k v k' = r k' := if_neg h
theorem rw_e {d : ya_D} {a k a' : Nat} {v : Int32} (h : a' = a) : (ya_sI d a k v).1 a' = rs (d.1 a) k v := by
  subst h; funext k'
  by_cases c : k' = k
  · exact (if_pos ⟨rfl, c⟩).trans (if_pos c).symm
  · exact (if_neg (fun q => c q.2)).trans (if_neg c).symm
theorem rw_n {d : ya_D} {a k a' : Nat} {v : Int32} (h : a' ≠ a) : (ya_sI d a k v).1 a' = d.1 a' := by
  funext k'; exact if_neg (fun q => h q.1)
theorem pn_sum_x {f : Nat → Nat} {m : Nat} : ∀ n, m ≤ n → (∀ c, m ≤ c → c < n → f c = 0) → pn_sum f n = pn_sum f m
  | 0, h, _ => by rw [Nat.le_zero.mp h]
  | n + 1, h, hz => by
    rcases Nat.lt_or_ge m (n + 1) with c | c
    · rw [pn_sum, pn_sum_x n (by omega) (fun c h1 h2 => hz c h1 (by omega)), hz n (by omega) (by omega)]; omega
    · rw [show m = n + 1 by omega]
theorem nI_z (x : Int32) : x + nI 0 = x := by rw [nI_0, Int32.add_zero]
theorem nI_a (x : Int32) (m n : Nat) : x + nI m + nI n = x + nI (m + n) := by rw [Int32.add_assoc, nI_add]
section
variable {d e : ya_D} {M : pm_M} {a : Nat}
/-- the class takes the oldest -/
theorem yr_take {s t n : Nat} {l : Nat → Nat} (hs : s < 5) (ht : t < 20) (hn : n < 2 ^ 31) (hl : ∀ c, l c ≤ 198) (h7 : ∀ c, c ≤ t → d.1 (a + 7) (20 * s + c) = nI (l c)) :
    ∃ d', ((∀ a', a' ≠ a + 7 → d'.1 a' = d.1 a') ∧ d'.2 = d.2 ∧ (∀ c, c ≤ t → d'.1 (a + 7) (20 * s + c) = nI (pv_tk l n c)) ∧ (∀ k, k < 20 * s ∨ 20 * s + t < k → d'.1 (a + 7) k = d.1 (a + 7) k)) ∧ f_X10_takeOldest a (nI s) (nI t) (nI n) d = some d' := by
  unfold f_X10_takeOldest
  refine pq_lp (G := fun fu i (σ : Nat × ya_D) => f_X10_takeOldest_L6 a (nI s) (nI t) fu (nI σ.1) (nI i) σ.2) (n := t + 1) (I := fun i σ => σ.1 = n - pn_sum l i ∧ (∀ a', a' ≠ a + 7 → σ.2.1 a' = d.1 a') ∧ σ.2.2 = d.2 ∧ (∀ c, c < i → σ.2.1 (a + 7) (20 * s + c) = nI (pv_tk l n c)) ∧ (∀ c, i ≤ c → c ≤ t → σ.2.1 (a + 7) (20 * s + c) = nI (l c)) ∧ (∀ k, k < 20 * s ∨ 20 * s + t < k → σ.2.1 (a + 7) k = d.1 (a + 7) k)) (fun fu σ hI => ?_) (fun fu i σ hi hI => ?_) ya_F 0 (n, d) (by omega) (by unfold ya_F; omega) ⟨by simp only [pn_sum]; omega, fun _ _ => rfl, rfl, fun c hc => by omega, fun c _ hc => h7 c hc, fun _ _ => rfl⟩
  · obtain ⟨e1, e2, e3, e4, e5, e6⟩ := hI
    refine ⟨σ.2, ⟨e2, e3, fun c hc => e4 c (by omega), e6⟩, ?_⟩
    show f_X10_takeOldest_L6 _ _ _ (fu + 1) _ _ _ = _
    rw [f_X10_takeOldest_L6, if_pos (nI_lt (by omega) (by omega))]
  · obtain ⟨e1, e2, e3, e4, e5, e6⟩ := hI
    have hli := hl i
    have hsum : pn_sum l (i + 1) = pn_sum l i + l i := rfl
    by_cases c0 : σ.1 = 0
    · left
      refine ⟨σ.2, ⟨e2, e3, fun c hc => ?_, e6⟩, ?_⟩
      · rcases Nat.lt_or_ge c i with q | q
        · exact e4 c q
        · rw [e5 c q hc]
          have := pn_sum_m (f := l) (m := i) c q
          have : pv_tk l n c = l c := by unfold pv_tk; omega
          rw [this]
      · show f_X10_takeOldest_L6 _ _ _ (fu + 1) _ _ _ = _
        rw [f_X10_takeOldest_L6, if_neg (nI_nlt (by omega) (by omega)), c0, if_pos (by decide)]
    · right
      refine ⟨(σ.1 - min σ.1 (l i), ya_sI σ.2 (a + 7) (20 * s + i) (nI (pv_tk l n i))), ⟨?_, ?_, e3, ?_, ?_, ?_⟩, ?_⟩
      · show σ.1 - min σ.1 (l i) = n - pn_sum l (i + 1)
        omega
      · intro a' ha'
        exact (rw_n ha').trans (e2 a' ha')
      · intro c hc
        show (ya_sI σ.2 (a + 7) (20 * s + i) (nI (pv_tk l n i))).1 (a + 7) (20 * s + c) = _
        by_cases q : c = i
        · rw [q, pn_e ⟨rfl, rfl⟩]
        · rw [pn_o (by omega), e4 c (by omega)]
      · intro c hc1 hc2
        show (ya_sI σ.2 (a + 7) (20 * s + i) (nI (pv_tk l n i))).1 (a + 7) (20 * s + c) = _
        rw [pn_o (by omega), e5 c (by omega) hc2]
      · intro k hk
        show (ya_sI σ.2 (a + 7) (20 * s + i) (nI (pv_tk l n i))).1 (a + 7) k = _
        rw [pn_o (by omega), e6 k hk]
      · show f_X10_takeOldest_L6 _ _ _ (fu + 1) _ _ _ = f_X10_takeOldest_L6 _ _ _ fu _ _ _
        have hr := e5 i (Nat.le_refl _) (by omega)
        have hz : pv_tk l n i = l i - min σ.1 (l i) := by unfold pv_tk; omega
        rw [f_X10_takeOldest_L6, if_neg (nI_nlt (by omega) (by omega)), if_neg (nI_nle (by omega) (by omega)), hz]
        simp (disch := omega) only [pl_0, pl_1, pl_2, pl_3, pl_4, pl_5, pl_6, pl_7, pl_8, pl_9, pl_10, pl_11, pl_12, pl_20, pl_24, pl_30, pl_31, pl_60, pl_99, pl_100, pl_111, pl_211, pl_311, pl_326, pl_400, pl_426, pb_s, ya_b2s, pj_0, pj_1, pj_2, pj_3, pb_pI, pb_pL, pm_cell1, pm_cell2, nI_add, pn_mul, pn_sub, pn_rI, pn_wI, pn_eq, pn_le, pn_lt, pm_min, pn_o, pn_e, pn_sI2, Nat.zero_add, Nat.add_zero, hr]
/-- the class's supply -/
theorem yr_supply (hC : pm_C d 24 M) (hW : pm_W M) {x t : Nat} {H : Nat → Nat} (hx : x < M 0 3) (ht : t < M 0 1) (h8 : ∀ s, s < M 0 4 → d.1 (a + 8) s = nI (H s)) : f_X10_supplyAt a 30 (nI x) (nI (M 2 (20 * x + t))) d = some (nI (pn_sum (fun s => if pm_of_ M x t s then H s else 0) (M 0 4))) := by
  obtain ⟨-, -, -, -, c4, -, -, -, c8, -, -⟩ := pk_c hC
  obtain ⟨⟨_, _, _, _, _, _⟩, -, w2, w3, -, -⟩ := pk_w hW
  have hp := w2 x t hx ht
  unfold f_X10_supplyAt
  refine pn_lp (G := fun fu i => f_X10_supplyAt_L6 a 30 (nI x) (nI (M 2 (20 * x + t))) d fu (nI (pn_sum (fun s => if pm_of_ M x t s then H s else 0) i)) (nI i)) (n := M 0 4) (fun fu => ?_) (fun fu i hi => ?_) ya_F 0 (by omega) (by unfold ya_F; omega)
  · show f_X10_supplyAt_L6 _ _ _ _ _ (fu + 1) _ _ = _
    rw [f_X10_supplyAt_L6, c4, if_pos (nI_le (Nat.le_refl _) (by omega))]
  · show f_X10_supplyAt_L6 _ _ _ _ _ (fu + 1) _ _ = f_X10_supplyAt_L6 _ _ _ _ _ fu _ _
    have h3 := w3 i hi
    have q : pn_sum (fun s => if pm_of_ M x t s then H s else 0) (i + 1) = pn_sum (fun s => if pm_of_ M x t s then H s else 0) i + if pm_of_ M x t i then H i else 0 := rfl
    rw [f_X10_supplyAt_L6, c4, if_neg (nI_ge hi (by omega)), q]
    obtain ⟨e5, e6, e7⟩ := c8 i hi
    by_cases c : M 5 i = x
    · by_cases c2 : M 2 (20 * x + t) < M 7 i
      · simp (disch := omega) only [pl_0, pl_1, pl_2, pl_3, pl_4, pl_5, pl_6, pl_7, pl_8, pl_9, pl_10, pl_11, pl_12, pl_20, pl_24, pl_30, pl_31, pl_60, pl_99, pl_100, pl_111, pl_211, pl_311, pl_326, pl_400, pl_426, pb_s, ya_b2s, pj_0, pj_1, pj_2, pj_3, pb_pI, pb_pL, pm_cell1, pm_cell2, nI_add, pn_mul, pn_sub, pn_rI, pn_wI, pn_eq, pn_le, pn_lt, pm_min, pn_o, pn_e, pn_sI2, Nat.zero_add, Nat.add_zero, Nat.reduceAdd, e5, e7, if_pos c, if_pos c2, if_neg (show ¬ pm_of_ M x t i by omega)]
      · simp (disch := omega) only [pl_0, pl_1, pl_2, pl_3, pl_4, pl_5, pl_6, pl_7, pl_8, pl_9, pl_10, pl_11, pl_12, pl_20, pl_24, pl_30, pl_31, pl_60, pl_99, pl_100, pl_111, pl_211, pl_311, pl_326, pl_400, pl_426, pb_s, ya_b2s, pj_0, pj_1, pj_2, pj_3, pb_pI, pb_pL, pm_cell1, pm_cell2, nI_add, pn_mul, pn_sub, pn_rI, pn_wI, pn_eq, pn_le, pn_lt, pm_min, pn_o, pn_e, pn_sI2, Nat.zero_add, Nat.add_zero, Nat.reduceAdd, e5, e7, if_pos c, if_neg c2, if_pos (show pm_of_ M x t i by omega), h8 i hi]
    · simp (disch := omega) only [pl_0, pl_1, pl_2, pl_3, pl_4, pl_5, pl_6, pl_7, pl_8, pl_9, pl_10, pl_11, pl_12, pl_20, pl_24, pl_30, pl_31, pl_60, pl_99, pl_100, pl_111, pl_211, pl_311, pl_326, pl_400, pl_426, pb_s, ya_b2s, pj_0, pj_1, pj_2, pj_3, pb_pI, pb_pL, pm_cell1, pm_cell2, nI_add, pn_mul, pn_sub, pn_rI, pn_wI, pn_eq, pn_le, pn_lt, pm_min, pn_o, pn_e, pn_sI2, Nat.zero_add, Nat.add_zero, Nat.reduceAdd, e5, if_neg c, if_neg (show ¬ pm_of_ M x t i by omega)]
/-- the reference's stock -/
theorem yr_stock (hR : pm_R e 84 0 M) (hW : pm_W M) {s : Nat} {l : Nat → Nat} (hs : s < M 0 4) (h90 : ∀ c, c < 20 → e.1 90 (20 * s + c) = nI (l c)) : f_X12_stockOf (nI s) e = some (nI (pn_sum l (M 0 1))) := by
  obtain ⟨-, r1, -, -, -, -, -, -, -, -, -⟩ := pk_r hR
  obtain ⟨⟨_, _, _, _, _, _⟩, -, -, -, -, -⟩ := pk_w hW
  unfold f_X12_stockOf
  refine pn_lp (G := fun fu i => f_X12_stockOf_L4 (nI s) e fu (nI (pn_sum l i)) (nI i)) (n := M 0 1) (fun fu => ?_) (fun fu i hi => ?_) ya_F 0 (by omega) (by unfold ya_F; omega)
  · show f_X12_stockOf_L4 _ _ (fu + 1) _ _ = _
    rw [f_X12_stockOf_L4]
    simp (disch := omega) only [pl_0, pl_1, pl_2, pl_3, pl_4, pl_5, pl_6, pl_7, pl_8, pl_9, pl_10, pl_11, pl_12, pl_20, pl_24, pl_30, pl_31, pl_60, pl_99, pl_100, pl_111, pl_211, pl_311, pl_326, pl_400, pl_426, pb_s, ya_b2s, pj_0, pj_1, pj_2, pj_3, pb_pI, pb_pL, pm_cell1, pm_cell2, nI_add, pn_mul, pn_sub, pn_rI, pn_wI, pn_eq, pn_le, pn_lt, pm_min, pn_o, pn_e, pn_sI2, Nat.zero_add, Nat.add_zero, r1, Nat.le_refl, if_true]
  · show f_X12_stockOf_L4 _ _ (fu + 1) _ _ = f_X12_stockOf_L4 _ _ fu _ _
    rw [f_X12_stockOf_L4, pn_sum]
    simp (disch := omega) only [pl_0, pl_1, pl_2, pl_3, pl_4, pl_5, pl_6, pl_7, pl_8, pl_9, pl_10, pl_11, pl_12, pl_20, pl_24, pl_30, pl_31, pl_60, pl_99, pl_100, pl_111, pl_211, pl_311, pl_326, pl_400, pl_426, pb_s, ya_b2s, pj_0, pj_1, pj_2, pj_3, pb_pI, pb_pL, pm_cell1, pm_cell2, nI_add, pn_mul, pn_sub, pn_rI, pn_wI, pn_eq, pn_le, pn_lt, pm_min, pn_o, pn_e, pn_sI2, Nat.zero_add, Nat.add_zero, r1, if_neg (Nat.not_le.mpr hi), h90]
/-- the reference's supply -/
theorem yr_there (hR : pm_R e 84 0 M) (hW : pm_W M) {x t : Nat} {l : Nat → Nat → Nat} (hx : x < M 0 3) (ht : t < M 0 1) (h90 : ∀ s c, s < M 0 4 → c < 20 → e.1 90 (20 * s + c) = nI (l s c)) (k : Int32 → Option ya_D) : f_X12_sellsOn_L5 (nI x) (nI t) e k ya_F (nI 0) (nI 0) = k (nI (pn_sum (fun s => if pm_of_ M x t s then pn_sum (l s) (M 0 1) else 0) (M 0 4))) := by
  obtain ⟨-, -, -, -, r4, -, -, -, -, -, -⟩ := pk_r hR
  obtain ⟨⟨_, _, _, _, _, _⟩, -, -, -, -, -⟩ := pk_w hW
  refine pn_lp (G := fun fu i => f_X12_sellsOn_L5 (nI x) (nI t) e k fu (nI (pn_sum (fun s => if pm_of_ M x t s then pn_sum (l s) (M 0 1) else 0) i)) (nI i)) (n := M 0 4) (fun fu => ?_) (fun fu i hi => ?_) ya_F 0 (by omega) (by unfold ya_F; omega)
  · show f_X12_sellsOn_L5 _ _ _ _ (fu + 1) _ _ = _
    rw [f_X12_sellsOn_L5]
    simp (disch := omega) only [pl_0, pl_1, pl_2, pl_3, pl_4, pl_5, pl_6, pl_7, pl_8, pl_9, pl_10, pl_11, pl_12, pl_20, pl_24, pl_30, pl_31, pl_60, pl_99, pl_100, pl_111, pl_211, pl_311, pl_326, pl_400, pl_426, pb_s, ya_b2s, pj_0, pj_1, pj_2, pj_3, pb_pI, pb_pL, pm_cell1, pm_cell2, nI_add, pn_mul, pn_sub, pn_rI, pn_wI, pn_eq, pn_le, pn_lt, pm_min, pn_o, pn_e, pn_sI2, Nat.zero_add, Nat.add_zero, r4, Nat.le_refl, if_true]
  · show f_X12_sellsOn_L5 _ _ _ _ (fu + 1) _ _ = f_X12_sellsOn_L5 _ _ _ _ fu _ _
    have q : pn_sum (fun s => if pm_of_ M x t s then pn_sum (l s) (M 0 1) else 0) (i + 1) = pn_sum (fun s => if pm_of_ M x t s then pn_sum (l s) (M 0 1) else 0) i + if pm_of_ M x t i then pn_sum (l i) (M 0 1) else 0 := rfl
    rw [f_X12_sellsOn_L5, q]
    by_cases c : pm_of_ M x t i
    · simp (disch := omega) only [pl_0, pl_1, pl_2, pl_3, pl_4, pl_5, pl_6, pl_7, pl_8, pl_9, pl_10, pl_11, pl_12, pl_20, pl_24, pl_30, pl_31, pl_60, pl_99, pl_100, pl_111, pl_211, pl_311, pl_326, pl_400, pl_426, pb_s, ya_b2s, pj_0, pj_1, pj_2, pj_3, pb_pI, pb_pL, pm_cell1, pm_cell2, nI_add, pn_mul, pn_sub, pn_rI, pn_wI, pn_eq, pn_le, pn_lt, pm_min, pn_o, pn_e, pn_sI2, Nat.zero_add, Nat.add_zero, r4, if_neg (Nat.not_le.mpr hi), pk_offers hR hW hi hx ht, if_pos c, if_false, Nat.one_ne_zero, yr_stock hR hW hi (h90 i · hi)]
    · simp (disch := omega) only [pl_0, pl_1, pl_2, pl_3, pl_4, pl_5, pl_6, pl_7, pl_8, pl_9, pl_10, pl_11, pl_12, pl_20, pl_24, pl_30, pl_31, pl_60, pl_99, pl_100, pl_111, pl_211, pl_311, pl_326, pl_400, pl_426, pb_s, ya_b2s, pj_0, pj_1, pj_2, pj_3, pb_pI, pb_pL, pm_cell1, pm_cell2, nI_add, pn_mul, pn_sub, pn_rI, pn_wI, pn_eq, pn_le, pn_lt, pm_min, pn_o, pn_e, pn_sI2, Nat.zero_add, Nat.add_zero, r4, if_neg (Nat.not_le.mpr hi), pk_offers hR hW hi hx ht, if_neg c, if_true]
end

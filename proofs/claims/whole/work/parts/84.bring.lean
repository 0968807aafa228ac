/-! A seller alone: the class's order, and what all brings -/
section
variable {d e : ya_D} {c q P : Nat → Nat} {k n : Nat}
theorem sa_L_c {d' : ya_D} (h : sa_L d c q P k n) (q1 : ∀ a, 72 ≤ a → a ≤ 75 → d'.1 a = d.1 a) : sa_L d' c q P k n := by
  unfold sa_L
  rw [q1 72 (by omega) (by omega), q1 73 (by omega) (by omega), q1 74 (by omega) (by omega), q1 75 (by omega) (by omega)]
  exact h
/-- an order of days that bring something, the dearest first -/
def sa_O (q P : Nat → Nat) (i m : Nat) (o : Nat → Nat) : Prop := m ≤ i ∧ (∀ x, x < m → o x < i ∧ 0 < P (o x) ∧ 0 < q (o x)) ∧ (∀ x y, x < y → y < m → o x ≠ o y ∧ P (o y) ≤ P (o x)) ∧ (∀ t, t < i → 0 < q t → 0 < P t → ∃ x, x < m ∧ o x = t)
/-- day t put in at place p -/
def pv_in (o : Nat → Nat) (p t : Nat) : Nat → Nat := fun x => if x < p then o x else if x = p then t else o (x - 1)
theorem sa_O_put {i m p : Nat} {o : Nat → Nat} (h : sa_O q P i m o) (hp : p ≤ m) (h1 : ∀ x, x < p → P i ≤ P (o x)) (h2 : ∀ x, p ≤ x → x < m → P (o x) < P i) (hP : 0 < P i) (hq : 0 < q i) : sa_O q P (i + 1) (m + 1) (pv_in o p i) := by
  obtain ⟨a1, a2, a3, a4⟩ := h
  refine ⟨by omega, fun x hx => ?_, fun x y hxy hy => ?_, fun t ht hqt hPt => ?_⟩
  · unfold pv_in
    by_cases c1 : x < p
    · rw [if_pos c1]
      obtain ⟨b1, b2, b3⟩ := a2 x (by omega)
      exact ⟨by omega, b2, b3⟩
    · rw [if_neg c1]
      by_cases c2 : x = p
      · rw [if_pos c2]; exact ⟨by omega, hP, hq⟩
      · rw [if_neg c2]
        obtain ⟨b1, b2, b3⟩ := a2 (x - 1) (by omega)
        exact ⟨by omega, b2, b3⟩
  · unfold pv_in
    by_cases c1 : x < p
    · rw [if_pos c1]
      have bx := a2 x (by omega)
      by_cases c2 : y < p
      · rw [if_pos c2]; exact a3 x y hxy (by omega)
      · rw [if_neg c2]
        by_cases c3 : y = p
        · rw [if_pos c3]; exact ⟨by omega, h1 x c1⟩
        · rw [if_neg c3]; exact a3 x (y - 1) (by omega) (by omega)
    · rw [if_neg c1, if_neg (show ¬ y < p by omega), if_neg (show ¬ y = p by omega)]
      have by_ := a2 (y - 1) (by omega)
      by_cases c2 : x = p
      · rw [if_pos c2]
        exact ⟨by omega, Nat.le_of_lt (h2 (y - 1) (by omega) (by omega))⟩
      · rw [if_neg c2]; exact a3 (x - 1) (y - 1) (by omega) (by omega)
  · by_cases c1 : t = i
    · refine ⟨p, by omega, ?_⟩
      unfold pv_in
      rw [if_neg (by omega), if_pos rfl, c1]
    · obtain ⟨x, hx, hxt⟩ := a4 t (by omega) hqt hPt
      by_cases c2 : x < p
      · exact ⟨x, by omega, by unfold pv_in; rw [if_pos c2]; exact hxt⟩
      · refine ⟨x + 1, by omega, ?_⟩
        unfold pv_in
        rw [if_neg (by omega), if_neg (by omega), Nat.add_sub_cancel]
        exact hxt
theorem sa_order (h : sa_L d c q P k n) : ∃ m o d', sa_O q P n m o ∧ (∀ x, x < m → d'.1 78 x = nI (o x)) ∧ (∀ a, a ≠ 78 → d'.1 a = d.1 a) ∧ d'.2 = d.2 ∧ f_X5_orderDays d = some (nI m, d') := by
  obtain ⟨b1, b2, b3, b4, b5, h6, h7, hr⟩ := h
  have key := pq_lp (G := fun fu i (σ : Nat × ya_D) => f_X5_orderDays_L4 fu (nI σ.1) (nI i) σ.2) (E := fun (σ : Nat × ya_D) => some (nI σ.1, σ.2)) (n := n)
    (I := fun i σ => ∃ o, sa_O q P i σ.1 o ∧ (∀ x, x < σ.1 → σ.2.1 78 x = nI (o x)) ∧ (∀ a, a ≠ 78 → σ.2.1 a = d.1 a) ∧ σ.2.2 = d.2)
    (Q := fun σ => ∃ o, sa_O q P n σ.1 o ∧ (∀ x, x < σ.1 → σ.2.1 78 x = nI (o x)) ∧ (∀ a, a ≠ 78 → σ.2.1 a = d.1 a) ∧ σ.2.2 = d.2)
    (fun fu σ hI => ?_) (fun fu i σ hi hI => ?_) ya_F 0 (0, d) (by omega) (by unfold ya_F; omega) ⟨fun _ => 0, ⟨Nat.le_refl _, fun x hx => absurd hx (Nat.not_lt_zero _), fun x y _ hy => absurd hy (Nat.not_lt_zero _), fun t ht => absurd ht (Nat.not_lt_zero _)⟩, fun x hx => absurd hx (Nat.not_lt_zero _), fun _ _ => rfl, rfl⟩
  · obtain ⟨σ, ⟨o, q1, q2, q3, q4⟩, z1⟩ := key
    refine ⟨σ.1, o, σ.2, q1, q2, q3, q4, ?_⟩
    unfold f_X5_orderDays
    rw [pl_0]; exact z1
  · obtain ⟨o, q1, q2, q3, q4⟩ := hI
    refine ⟨σ, ⟨o, q1, q2, q3, q4⟩, ?_⟩
    show f_X5_orderDays_L4 (fu + 1) _ _ _ = _
    rw [f_X5_orderDays_L4, q3 72 (by omega), h6, if_pos (nI_le (Nat.le_refl _) (by omega))]
  · obtain ⟨m, d1⟩ := σ
    obtain ⟨o, q1, q2, q3, q4⟩ := hI
    simp only at q1 q2 q3 q4
    right
    obtain ⟨r3, r4, r5⟩ := hr i hi
    have hPi := b5 i
    have hqi := b4 i
    have hmi := q1.1
    -- a day that brings nothing
    have hskip : ∀ (hno : P i = 0 ∨ q i = 0), sa_O q P (i + 1) m o := fun hno => ⟨by omega, fun x hx => ⟨by have := (q1.2.1 x hx).1; omega, (q1.2.1 x hx).2⟩, q1.2.2.1, fun t ht hq hP => by
      by_cases c1 : t = i
      · subst c1; omega
      · exact q1.2.2.2 t (by omega) hq hP⟩
    by_cases c1 : P i = 0
    · refine ⟨(m, d1), ⟨o, hskip (Or.inl c1), q2, q3, q4⟩, ?_⟩
      show f_X5_orderDays_L4 (fu + 1) _ _ _ = f_X5_orderDays_L4 fu _ _ _
      rw [f_X5_orderDays_L4, q3 72 (by omega), h6, if_neg (nI_ge hi (by omega)), pn_rI (by omega) (by omega), pb_s, pj_2, q3 73 (by omega), r3, c1, if_pos (show nI 0 ≤ 0 by decide), nI_1]
    · by_cases c2 : q i = 0
      · refine ⟨(m, d1), ⟨o, hskip (Or.inr c2), q2, q3, q4⟩, ?_⟩
        show f_X5_orderDays_L4 (fu + 1) _ _ _ = f_X5_orderDays_L4 fu _ _ _
        rw [f_X5_orderDays_L4, q3 72 (by omega), h6, if_neg (nI_ge hi (by omega)), pn_rI (by omega) (by omega), pb_s, pj_2, q3 73 (by omega), r3, if_neg (nI_nle (by omega) (by omega)), pn_rI (by omega) (by omega), pb_s, q3 74 (by omega), r4, c2, if_pos (show nI 0 ≤ 0 by decide), nI_1]
      · -- put in its place
        have inner := pq_lp (G := fun fu' x (z : ya_D) => f_X5_orderDays_L37 (nI m) (nI i) (fun (v3_88 : Int32) (d_88 : ya_D) => (ya_wI d_88 78 20 v3_88 (nI i)).bind fun d94 => f_X5_orderDays_L4 fu (nI m + 1) (nI i + 1) d94) fu' (nI (m - x)) (nI (m - x) - 1) z) (E := fun (y : Nat × ya_D) => (ya_wI y.2 78 20 (nI y.1) (nI i)).bind fun d94 => f_X5_orderDays_L4 fu (nI m + 1) (nI i + 1) d94) (n := m)
          (I := fun x z => (∀ y, y < m - x → z.1 78 y = nI (o y)) ∧ (∀ y, m - x < y → y ≤ m → z.1 78 y = nI (o (y - 1))) ∧ (∀ y, m - x ≤ y → y < m → P (o y) < P i) ∧ (∀ a, a ≠ 78 → z.1 a = d1.1 a) ∧ z.2 = d1.2)
          (Q := fun y => y.1 ≤ m ∧ (∀ x, x < y.1 → P i ≤ P (o x)) ∧ (∀ x, y.1 ≤ x → x < m → P (o x) < P i) ∧ (∀ x, x < y.1 → y.2.1 78 x = nI (o x)) ∧ (∀ x, y.1 < x → x ≤ m → y.2.1 78 x = nI (o (x - 1))) ∧ (∀ a, a ≠ 78 → y.2.1 a = d1.1 a) ∧ y.2.2 = d1.2)
          (fun fu' z hI2 => ?_) (fun fu' x z hx hI2 => ?_) ya_F 0 d1 (by omega) (by unfold ya_F; omega) ⟨fun y hy => q2 y (by omega), fun y h1 h2 => by omega, fun y h1 h2 => by omega, fun _ _ => rfl, rfl⟩
        · obtain ⟨⟨p, d2⟩, ⟨g1, g2, g3, g4, g5, g6, g7⟩, g8⟩ := inner
          simp only at g1 g2 g3 g4 g5 g6 g7
          refine ⟨(m + 1, ya_sI d2 78 p (nI i)), ⟨pv_in o p i, sa_O_put q1 g1 g2 g3 (by omega) (by omega), fun x hx => ?_, fun a ha => (rw_n ha).trans ((g6 a ha).trans (q3 a ha)), g7.trans q4⟩, ?_⟩
          · show (ya_sI d2 78 p (nI i)).1 78 x = _
            replace hx : x < m + 1 := hx
            unfold pv_in
            by_cases c3 : x < p
            · rw [if_pos c3, pn_o (by omega)]; exact g4 x c3
            · rw [if_neg c3]
              by_cases c4 : x = p
              · rw [if_pos c4, c4, pn_e ⟨rfl, rfl⟩]
              · rw [if_neg c4, pn_o (by omega)]; exact g5 x (by omega) (by omega)
          · show f_X5_orderDays_L4 (fu + 1) _ _ _ = f_X5_orderDays_L4 fu _ _ _
            rw [f_X5_orderDays_L4, q3 72 (by omega), h6, if_neg (nI_ge hi (by omega)), pn_rI (by omega) (by omega), pb_s, pj_2, q3 73 (by omega), r3, if_neg (nI_nle (by omega) (by omega)), pn_rI (by omega) (by omega), pb_s, q3 74 (by omega), r4, if_neg (nI_nle (by omega) (by omega))]
            refine g8.trans ?_
            rw [pn_wI (by omega) (by omega), pb_s, nI_1, nI_1]
        · obtain ⟨g1, g2, g3, g4, g5⟩ := hI2
          refine ⟨(0, z), ⟨Nat.zero_le _, fun x hx => absurd hx (Nat.not_lt_zero _), fun x _ h2 => g3 x (by omega) h2, fun x hx => absurd hx (Nat.not_lt_zero _), fun x h1 h2 => g2 x (by omega) h2, g4, g5⟩, ?_⟩
          show f_X5_orderDays_L37 _ _ _ (fu' + 1) _ _ _ = _
          rw [f_X5_orderDays_L37, Nat.sub_self, if_pos (by decide)]
        · obtain ⟨g1, g2, g3, g4, g5⟩ := hI2
          have hom := (q1.2.1 (m - x - 1) (by omega)).1
          have e1 : nI (m - x) - 1 = nI (m - x - 1) := by rw [pl_1, pn_sub (by omega)]
          have hr1 : z.1 78 (m - x - 1) = nI (o (m - x - 1)) := g1 _ (by omega)
          have hr2 := (hr (o (m - x - 1)) (by omega)).1
          have hb5' := b5 (o (m - x - 1))
          by_cases c3 : P i ≤ P (o (m - x - 1))
          · left
            refine ⟨(m - x, z), ⟨by show m - x ≤ m; omega, fun y hy => ?_, fun y h1 h2 => g3 y h1 h2, g1, g2, g4, g5⟩, ?_⟩
            · by_cases c4 : y = m - x - 1
              · rw [c4]; exact c3
              · have := (q1.2.2.1 y (m - x - 1) (by have : y < m - x := hy; omega) (by omega)).2
                omega
            · show f_X5_orderDays_L37 _ _ _ (fu' + 1) _ _ _ = _
              rw [f_X5_orderDays_L37, e1, if_neg (nI_pos (by omega)), pn_rI (by omega) (by omega), pb_s, hr1, pn_rI (by omega) (by omega), pb_s, g4 73 (by omega), q3 73 (by omega), hr2, pn_rI (by omega) (by omega), pb_s, g4 73 (by omega), q3 73 (by omega), r3, if_pos (nI_le c3 (by omega))]
          · right
            refine ⟨ya_sI z 78 (m - x) (nI (o (m - x - 1))), ⟨fun y hy => ?_, fun y h1 h2 => ?_, fun y h1 h2 => ?_, fun a ha => (rw_n ha).trans (g4 a ha), g5⟩, ?_⟩
            · rw [pn_o (by omega)]; exact g1 y (by omega)
            · by_cases c4 : y = m - x
              · rw [c4, pn_e ⟨rfl, rfl⟩]
              · rw [pn_o (Or.inr c4)]; exact g2 y (by omega) h2
            · by_cases c4 : y = m - x - 1
              · rw [c4]; omega
              · exact g3 y (by omega) h2
            · show f_X5_orderDays_L37 _ _ _ (fu' + 1) _ _ _ = f_X5_orderDays_L37 _ _ _ fu' _ _ _
              rw [f_X5_orderDays_L37, e1, if_neg (nI_pos (by omega)), pn_rI (by omega) (by omega), pb_s, hr1, pn_rI (by omega) (by omega), pb_s, g4 73 (by omega), q3 73 (by omega), hr2, pn_rI (by omega) (by omega), pb_s, g4 73 (by omega), q3 73 (by omega), r3, if_neg (nI_ge (by omega) (by omega)), pb_s, nI_1, show m - x - 1 + 1 = m - x by omega, pn_wI (by omega) (by omega), pb_s, show m - x - 1 = m - (x + 1) by omega, Int32.sub_eq_add_neg]
/-- the days of the first i of an order -/
def pv_Dn (o : Nat → Nat) : Nat → Nat → Bool
  | 0 => fun _ => false
  | i + 1 => fun t => decide (t = o i) || pv_Dn o i t
theorem pv_Dn_t {o : Nat → Nat} {t : Nat} : ∀ i, pv_Dn o i t = true ↔ ∃ x, x < i ∧ o x = t
  | 0 => ⟨fun h => absurd h Bool.false_ne_true, fun ⟨x, hx, _⟩ => absurd hx (Nat.not_lt_zero _)⟩
  | i + 1 => by
    show (decide (t = o i) || pv_Dn o i t) = true ↔ _
    rw [Bool.or_eq_true, decide_eq_true_iff, pv_Dn_t i]
    constructor
    · rintro (h | ⟨x, hx, h⟩)
      · exact ⟨i, by omega, h.symm⟩
      · exact ⟨x, by omega, h⟩
    · rintro ⟨x, hx, h⟩
      by_cases c1 : x = i
      · left; rw [← h, c1]
      · right; exact ⟨x, by omega, h⟩
theorem sa_bring (h : sa_L d c q P k n) : ∃ d', (∀ a, a < 76 ∨ 78 < a → d'.1 a = d.1 a) ∧ d'.2 = d.2 ∧ f_X5_bring d = some (nI (pv_V c k q P n), d') := by
  have hL0 : sa_L (pf d 76 20 (nI 0)) c q P k n := sa_L_c h (fun a h1 h2 => pf_n (by omega))
  obtain ⟨m, o, d1, hO, ho78, ho1, ho2, ho3⟩ := sa_order hL0
  have hL1 : sa_L d1 c q P k n := sa_L_c hL0 (fun a h1 h2 => ho1 a (by omega))
  have hP99 : ∀ t, P t ≤ 99 := h.2.2.2.2.1
  have hq63 : ∀ t, q t ≤ 63 := h.2.2.2.1
  have hn20 : n ≤ 20 := h.1
  have hmn := hO.1
  have hVq : pn_sum q n ≤ 63 * n := pn_sum_le n (fun t _ => hq63 t)
  have key := pq_lp (G := fun fu i (σ : Nat × ya_D) => f_X5_bring_L17 (nI m) fu (nI σ.1) (nI i) σ.2) (E := fun (σ : Nat × ya_D) => some (nI σ.1, σ.2)) (n := m)
    (I := fun i σ => ∃ s, pv_gr c k q P n (pv_Dn o i) s ∧ σ.1 = pn_sum (fun t => s t * P t) n ∧ (∀ t, t < n → σ.2.1 76 t = nI (s t)) ∧ (∀ a, a ≠ 76 → a ≠ 77 → σ.2.1 a = d1.1 a) ∧ σ.2.2 = d1.2)
    (Q := fun σ => σ.1 = pv_V c k q P n ∧ (∀ a, a ≠ 76 → a ≠ 77 → σ.2.1 a = d1.1 a) ∧ σ.2.2 = d1.2)
    (fun fu σ hI => ?_) (fun fu i σ hi hI => ?_) ya_F 0 (0, d1) (by omega) (by unfold ya_F; omega) ⟨fun _ => 0, pv_gr_0, (pn_sum_0 n (fun t _ => Nat.zero_mul _)).symm, fun t ht => by
      show d1.1 76 t = nI 0
      rw [ho1 76 (by omega), pf_e ⟨rfl, by omega⟩], fun _ _ _ => rfl, rfl⟩
  · obtain ⟨σ, ⟨q1, q2, q3⟩, z1⟩ := key
    refine ⟨σ.2, fun a ha => ?_, by rw [q3, ho2]; rfl, ?_⟩
    · rw [q2 a (by omega) (by omega), ho1 a (by omega), pf_n (by omega)]
    · unfold f_X5_bring
      rw [pl_0, pf_I, pb_s, ho3, ya_b2s, ← q1]
      exact z1
  · obtain ⟨s, g1, g2, g3, g4, g5⟩ := hI
    refine ⟨σ, ⟨?_, g4, g5⟩, ?_⟩
    · rw [g2]
      exact pv_gr_end g1 (fun t _ => hP99 t) (fun t ht hq hP => (pv_Dn_t m).mpr (hO.2.2.2 t ht hq hP))
    · show f_X5_bring_L17 _ (fu + 1) _ _ _ = _
      rw [f_X5_bring_L17, if_pos (nI_le (Nat.le_refl _) (by omega))]
  · obtain ⟨s, g1, g2, g3, g4, g5⟩ := hI
    obtain ⟨S, σ2⟩ := σ
    simp only at g2 g3 g4 g5
    subst g2
    right
    obtain ⟨oi1, oi2, oi3⟩ := hO.2.1 i hi
    have hDi : pv_Dn o i (o i) = false := by
      refine Bool.eq_false_iff.mpr (fun hh => ?_)
      obtain ⟨x, hx, he⟩ := (pv_Dn_t i).mp hh
      exact (hO.2.2.1 x i hx hi).1 he
    have hmax : ∀ t, t < n → pv_Dn o i t = false → 0 < q t → 0 < P t → P t ≤ P (o i) := by
      intro t ht hD hq hP
      obtain ⟨x, hx, he⟩ := hO.2.2.2 t ht hq hP
      rcases Nat.lt_or_ge x i with c1 | c1
      · have := (pv_Dn_t (t := t) (o := o) i).mpr ⟨x, c1, he⟩
        rw [hD] at this
        exact absurd this Bool.false_ne_true
      · by_cases c2 : x = i
        · rw [← he, c2]; exact Nat.le_refl _
        · rw [← he]; exact (hO.2.2.1 i x (by omega) hx).2
    obtain ⟨k1, k2⟩ := pv_gr_step g1 oi1 hDi oi3 oi2 hmax
    have hsj : s (o i) = 0 := g1.1 (o i) hDi
    have hs0 : pn_up s (o i) 0 = s := by rw [← hsj]; exact pn_up_id
    obtain ⟨hm, -, -⟩ := pv_phi (c := c) (k := k) (n := n) (s := s) (j := o i) (Q := q (o i)) (by rw [hs0]; exact g1.2.2.1)
    have hro := hL1.2.2.2.2.2.2.2 (o i) oi1
    have hq' := hq63 (o i)
    have hL2 : sa_L (ya_sI σ2 76 (o i) (nI (q (o i)))) c q P k n := sa_L_c hL1 (fun a h1 h2 => (rw_n (by omega)).trans (g4 a (by omega) (by omega)))
    obtain ⟨d2, A1, A2, A3⟩ := sa_missing hL2 (s := pn_up s (o i) (q (o i))) (fun t => by
      unfold pn_up
      split
      · exact hq63 _
      · exact Nat.le_trans (g1.2.1 t) (hq63 t)) (fun t ht => by
      by_cases c1 : t = o i
      · rw [c1, pn_e ⟨rfl, rfl⟩, pn_upe]
      · rw [pn_o (Or.inr c1), pn_upn c1]; exact g3 t ht)
    refine ⟨(pn_sum (fun t => pn_up s (o i) (q (o i) - pv_M c k (pn_up s (o i) (q (o i))) n) t * P t) n, ya_sI d2 76 (o i) (nI (q (o i) - pv_M c k (pn_up s (o i) (q (o i))) n))), ⟨_, k1, rfl, fun t ht => ?_, fun a h1 h2 => (rw_n h1).trans ((A1 a h2).trans ((rw_n h1).trans (g4 a h1 h2))), A2.trans g5⟩, ?_⟩
    · show (ya_sI d2 76 (o i) _).1 76 t = _
      by_cases c1 : t = o i
      · rw [c1, pn_e ⟨rfl, rfl⟩, pn_upe]
      · rw [pn_o (Or.inr c1), pn_upn c1, A1 76 (by omega), pn_o (Or.inr c1)]; exact g3 t ht
    · show f_X5_bring_L17 _ (fu + 1) _ _ _ = f_X5_bring_L17 _ fu _ _ _
      have h78 : σ2.1 78 i = nI (o i) := by rw [g4 78 (by omega) (by omega)]; exact ho78 i hi
      have h73 : (ya_sI d2 76 (o i) (nI (q (o i) - pv_M c k (pn_up s (o i) (q (o i))) n))).1 73 (o i) = nI (P (o i)) := by
        rw [rw_n (by omega), A1 73 (by omega), rw_n (by omega), g4 73 (by omega) (by omega)]; exact hro.1
      rw [f_X5_bring_L17, if_neg (nI_ge hi (by omega)), pn_rI (by omega) (by omega), pb_s, h78, pn_rI (by omega) (by omega), pb_s, g4 74 (by omega) (by omega), hro.2.1, pn_wI (by omega) (by omega), pb_s, pn_rI (by omega) (by omega), pb_s, pn_e ⟨rfl, rfl⟩, A3, ya_b2s, pn_sub hm, pn_wI (by omega) (by omega), pb_s, pn_rI (by omega) (by omega), pb_s, pn_rI (by omega) (by omega), pb_s, pn_e ⟨rfl, rfl⟩, h73, pn_mul, nI_add, nI_1, k2]
end

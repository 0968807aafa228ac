/-! Loops by their places; come, mark -/
theorem pn_lp {γ : Type} {G : Nat → Nat → Option γ} {n : Nat} {r : Option γ} (hstop : ∀ fu, G (fu + 1) n = r) (hstep : ∀ fu i, i < n → G (fu + 1) i = G fu (i + 1)) : ∀ fu i, i ≤ n → n < i + fu → G fu i = r := by
  intro fu
  induction fu with
  | zero => intro i h1 h2; omega
  | succ fu ih =>
    intro i h1 h2
    rcases Nat.lt_or_ge i n with h | h
    · rw [hstep fu i h]; exact ih (i + 1) (by omega) (by omega)
    · rw [show i = n by omega]; exact hstop fu
theorem pn_10 : ¬ (1 : Int32) = 0 := by decide
/-- the sum of f 0 .. f (n - 1) -/
def pn_sum (f : Nat → Nat) : Nat → Nat
  | 0 => 0
  | n + 1 => pn_sum f n + f n
theorem pn_sum_le {f : Nat → Nat} {K : Nat} : ∀ n, (∀ i, i < n → f i ≤ K) → pn_sum f n ≤ K * n
  | 0, _ => Nat.zero_le _
  | n + 1, h => by
    have h1 := pn_sum_le n (fun i hi => h i (by omega))
    have h2 := h n (by omega)
    rw [pn_sum, Nat.mul_succ]
    omega
theorem pn_i64 (v : Int32) : v.toInt64.toInt = v.toInt := Int32.toInt_toInt64 v
theorem pn_in2 {t a b : Nat} (ht : t < 2 ^ 31) (ha : a < 2 ^ 31) (hb : b < 2 ^ 31) : f_X12_in (nI t).toInt64 (nI a).toInt64 (nI b).toInt64 = some (if a ≤ t ∧ t ≤ b then 1 else 0) := by
  have e0 : ((nI t).toInt64 < (nI a).toInt64) = (t < a) := propext (Int64.lt_iff_toInt_lt.trans (by rw [pn_i64, pn_i64, nI_toInt ht, nI_toInt ha]; omega))
  have e1 : ((nI b).toInt64 < (nI t).toInt64) = (b < t) := propext (Int64.lt_iff_toInt_lt.trans (by rw [pn_i64, pn_i64, nI_toInt ht, nI_toInt hb]; omega))
  simp only [f_X12_in, ya_j0, e0, e1]
  by_cases h0 : t < a
  · rw [if_pos h0, if_neg (by omega)]
  · rw [if_neg h0]
    by_cases h1 : b < t
    · rw [if_pos h1, if_neg (by omega)]
    · rw [if_neg h1, if_pos (by omega)]
theorem pn_w99 (v : Int32) : f_X11_within v 0 99 = some (if pn_ok v 100 then 1 else 0) := by
  have e0 : (v < 0) = (v.toInt < 0) := propext (Int32.lt_iff_toInt_lt.trans (by rw [show (0 : Int32).toInt = 0 from by decide]))
  have e1 : (99 < v) = (99 < v.toInt) := propext (Int32.lt_iff_toInt_lt.trans (by rw [show (99 : Int32).toInt = 99 from by decide]))
  simp only [f_X11_within, ya_j0, e0, e1, pn_ok]
  by_cases h0 : v.toInt < 0
  · rw [if_pos h0, if_neg (by omega)]
  · rw [if_neg h0]
    by_cases h1 : 99 < v.toInt
    · rw [if_pos h1, if_neg (by omega)]
    · rw [if_neg h1, if_pos (by omega)]
theorem pn_in99 (v : Int32) : f_X12_in v.toInt64 0 99 = some (if pn_ok v 100 then 1 else 0) := by
  have e0 : (v.toInt64 < 0) = (v.toInt < 0) := propext (Int64.lt_iff_toInt_lt.trans (by rw [pn_i64, show (0 : Int64).toInt = 0 from by decide]))
  have e1 : (99 < v.toInt64) = (99 < v.toInt) := propext (Int64.lt_iff_toInt_lt.trans (by rw [pn_i64, show (99 : Int64).toInt = 99 from by decide]))
  simp only [f_X12_in, ya_j0, e0, e1, pn_ok]
  by_cases h0 : v.toInt < 0
  · rw [if_pos h0, if_neg (by omega)]
  · rw [if_neg h0]
    by_cases h1 : 99 < v.toInt
    · rw [if_pos h1, if_neg (by omega)]
    · rw [if_neg h1, if_pos (by omega)]
section
variable {d : ya_D} {M : pm_M}
theorem pm_bu (h : pm_W M) {b : Nat} (hb : b < M 0 5) : M 9 b < M 0 3 ∧ 1 ≤ M 10 b ∧ M 10 b ≤ 9 ∧ M 11 b ≤ 99 ∧ M 12 b ≤ M 13 b ∧ M 13 b < M 0 1 ∧ M 14 b ≤ 30 := h.2.2.2.2.2.2.2.2.2.2.2.2 b hb
theorem pm_bu1 (h : pm_I d M) {b : Nat} (hb : b < M 0 5) : d.1 36 b = nI (M 9 b) ∧ d.1 37 b = nI (M 10 b) ∧ d.1 38 b = nI (M 11 b) ∧ d.1 39 b = nI (M 12 b) ∧ d.1 40 b = nI (M 13 b) ∧ d.1 41 b = nI (M 14 b) := h.1.2.2.2.2.2.2.2.2.2.2 b hb
/-- the buyer of number b comes for thing x on day t at the price y -/
abbrev pm_co (M : pm_M) (x t y b : Nat) : Prop := M 9 b = x ∧ M 12 b ≤ t ∧ t ≤ M 13 b ∧ y ≤ M 11 b
theorem pm_comes1 (h : pm_I d M) {b x t y : Nat} (hb : b < M 0 5) (hx : x < 2 ^ 31) (ht : t < 2 ^ 31) (hy : y < 2 ^ 31) : f_X1_comes 35 (nI b) (nI x) (nI t) (nI y) d = some (if pm_co M x t y b then 1 else 0) := by
  have hM := pm_b h.2.2
  have hB := pm_bu h.2.2 hb
  obtain ⟨e0, e1, e2, e3, e4, e5⟩ := pm_bu1 h hb
  unfold f_X1_comes ya_j0
  simp (disch := omega) only [pn_rI, Option.bind_some, Nat.reduceAdd, e0, e2, e3, e4, pn_eq, pn_lt]
  by_cases c0 : M 9 b = x
  · rw [if_pos c0]
    by_cases c1 : t < M 12 b
    · rw [if_pos c1, if_neg (by omega)]
    · rw [if_neg c1]
      by_cases c2 : M 13 b < t
      · rw [if_pos c2, if_neg (by omega)]
      · rw [if_neg c2]
        by_cases c3 : M 11 b < y
        · rw [if_pos c3, if_neg (by omega)]
        · rw [if_neg c3, if_pos (by omega)]
  · rw [if_neg c0, if_neg (by omega)]
theorem pm_countComing (h : pm_I d M) {x t y : Nat} (hx : x < 2 ^ 31) (ht : t < 2 ^ 31) (hy : y < 2 ^ 31) : f_X1_countComing 35 (nI x) (nI t) (nI y) d = some (nI (pn_sum (fun b => if pm_co M x t y b then 1 else 0) (M 0 5))) := by
  have hM := pm_b h.2.2
  unfold f_X1_countComing
  refine pn_lp (G := fun fu i => f_X1_countComing_L6 35 (nI x) (nI t) (nI y) d fu (nI (pn_sum (fun b => if pm_co M x t y b then 1 else 0) i)) (nI i)) (n := M 0 5) (fun fu => ?_) (fun fu i hi => ?_) ya_F 0 (by omega) (by unfold ya_F; omega)
  · show f_X1_countComing_L6 _ _ _ _ _ (fu + 1) _ _ = _
    rw [f_X1_countComing_L6, show d.1 35 0 = nI (M 0 5) from h.1.2.2.2.2.2.1, if_pos (nI_le (Nat.le_refl _) (by omega))]
  · show f_X1_countComing_L6 _ _ _ _ _ (fu + 1) _ _ = _
    rw [f_X1_countComing_L6, show d.1 35 0 = nI (M 0 5) from h.1.2.2.2.2.2.1, if_neg (nI_ge hi (by omega)), pm_comes1 h hi hx ht hy, Option.bind_some, pn_sum]
    unfold ya_j1
    dsimp only
    by_cases c : pm_co M x t y i
    · rw [if_pos c, if_pos c, if_neg pn_10, nI_1, nI_1]
    · rw [if_neg c, if_neg c, if_pos rfl, nI_1]; rfl
end
theorem pm_of {d : ya_D} {b j : Nat} (h : 426 + 6 * b + j < 468) : f_X12_of (nI b) (nI j) d = some (d.1 84 (426 + 6 * b + j)) := by
  unfold f_X12_of
  rw [show (426 : Int32) = nI 426 from rfl, show (6 : Int32) = nI 6 from rfl, pn_mul, nI_add, nI_add, pn_rI h (by omega), Option.bind_some]
theorem pm_bu2 {d : ya_D} {M : pm_M} (h : pm_J d M) {b : Nat} (hb : b < M 0 5) : d.1 84 (426 + 6 * b) = nI (M 9 b) ∧ d.1 84 (426 + 6 * b + 1) = nI (M 10 b) ∧ d.1 84 (426 + 6 * b + 2) = nI (M 11 b) ∧ d.1 84 (426 + 6 * b + 3) = nI (M 12 b) ∧ d.1 84 (426 + 6 * b + 4) = nI (M 13 b) ∧ d.1 84 (426 + 6 * b + 5) = nI (M 14 b) := by
  have := h.1.2.2.2.2.2.2.2.2.2.2 b hb
  simp only [Nat.zero_add] at this
  exact this
theorem pm_comeAt {d : ya_D} {M : pm_M} (h : pm_J d M) {x t y : Nat} (hx : x < 2 ^ 31) (ht : t < 2 ^ 31) (hy : y < 2 ^ 31) : f_X12_comeAt (nI x) (nI t) (nI y) d = some (nI (pn_sum (fun b => if pm_co M x t y b then 1 else 0) (M 0 5))) := by
  have hM := pm_b h.2
  have hn : d.1 84 3 = nI (M 0 5) := h.1.2.2.2.2.2.1
  unfold f_X12_comeAt
  refine pn_lp (G := fun fu i => f_X12_comeAt_L6 (nI x) (nI t) (nI y) d fu (nI (pn_sum (fun b => if pm_co M x t y b then 1 else 0) i)) (nI i)) (n := M 0 5) (fun fu => ?_) (fun fu i hi => ?_) ya_F 0 (by omega) (by unfold ya_F; omega)
  · show f_X12_comeAt_L6 _ _ _ _ (fu + 1) _ _ = _
    rw [f_X12_comeAt_L6, show (3 : Int32) = nI 3 from rfl, pn_rI (by omega) (by omega), Option.bind_some, hn, if_pos (nI_le (Nat.le_refl _) (by omega))]
  · show f_X12_comeAt_L6 _ _ _ _ (fu + 1) _ _ = _
    have hB := pm_bu h.2 hi
    obtain ⟨e0, e1, e2, e3, e4, e5⟩ := pm_bu2 h hi
    rw [f_X12_comeAt_L6, show (3 : Int32) = nI 3 from rfl, pn_rI (by omega) (by omega), Option.bind_some, hn, if_neg (nI_ge hi (by omega)), show (0 : Int32) = nI 0 from rfl, pm_of (by omega), Option.bind_some, pn_sum, show (4 : Int32) = nI 4 from rfl, show (2 : Int32) = nI 2 from rfl, pm_of (by omega), pm_of (by omega), pm_of (by omega)]
    simp (disch := omega) only [ya_j0, ya_j1, Option.bind_some, Nat.add_zero, e0, e2, e3, e4, pn_eq, pn_lt, pn_in2]
    by_cases c : pm_co M x t y i
    · rw [if_pos c, if_pos c.1, if_pos (show M 12 i ≤ t ∧ t ≤ M 13 i from ⟨c.2.1, c.2.2.1⟩), if_neg (show ¬ (1 : Int32) = nI 0 from pn_10), if_neg (Nat.not_lt.mpr c.2.2.2), show (1 : Int32) = nI 1 from rfl, nI_add, nI_add]
    · rw [if_neg c]
      by_cases c0 : M 9 i = x
      · rw [if_pos c0]
        by_cases c1 : M 12 i ≤ t ∧ t ≤ M 13 i
        · rw [if_pos c1, if_neg (show ¬ (1 : Int32) = nI 0 from pn_10), if_pos (show M 11 i < y by omega), nI_add, show (1 : Int32) = nI 1 from rfl, nI_add]
        · rw [if_neg c1, if_pos (show (0 : Int32) = nI 0 from rfl), nI_add, show (1 : Int32) = nI 1 from rfl, nI_add]
      · rw [if_neg c0, nI_add, show (1 : Int32) = nI 1 from rfl, nI_add]
/-- come: class and reference answer alike -/
theorem pm_come {d : ya_D} {M : pm_M} (h : pm_I d M) (v w y : Int32) : ∃ r, f_X11_come v w y d = some r ∧ f_X12_come v w y d = some r := by
  have hM := pm_b h.2.2
  unfold f_X11_come f_X12_come ya_j0
  dsimp only
  rw [pm_areSo1 h, pm_areSo2 h.2, Option.bind_some, Option.bind_some, pn_w99, pn_in99, Option.bind_some, Option.bind_some]
  by_cases e : pn_ok v (M 0 3) ∧ pn_ok w (M 0 1)
  · rw [if_pos e, if_neg pn_10, if_neg pn_10]
    by_cases c : pn_ok y 100
    · obtain ⟨x, hx, hx3, rfl⟩ := pn_ok_ex e.1
      obtain ⟨t, ht, ht3, rfl⟩ := pn_ok_ex e.2
      obtain ⟨u, hu, hu3, rfl⟩ := pn_ok_ex c
      rw [if_pos c, if_neg pn_10, if_neg pn_10, pm_countComing h hx3 ht3 hu3, pm_comeAt h.2 hx3 ht3 hu3]
      exact ⟨_, rfl, rfl⟩
    · rw [if_neg c, if_pos rfl, if_pos rfl]
      exact ⟨_, rfl, rfl⟩
  · rw [if_neg e, if_pos rfl, if_pos rfl]
    exact ⟨_, rfl, rfl⟩

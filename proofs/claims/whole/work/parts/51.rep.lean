/-! A market as a table of naturals, and how class and reference hold it -/
abbrev pm_M := Nat → Nat → Nat
/-- a mark: none, or a price -/
def pm_m : Nat → Int32
  | 0 => -1
  | v + 1 => nI v
/-- the class's market at cell a is M: field 0 is lines, days, cap, things, sellers, buyers; 1 keeps, 2 price, 3 old, 4 mark; 5 thing, 6 has, 7 asks, 8 grows; 9 thing, 10 wants, 11 pays, 12 from, 13 to, 14 stores -/
def pm_C (d : ya_D) (a : Nat) (M : pm_M) : Prop :=
  d.1 a 0 = nI (M 0 0) ∧ d.1 a 1 = nI (M 0 1) ∧ d.1 a 2 = nI (M 0 2) ∧ d.1 (a + 1) 0 = nI (M 0 3) ∧ d.1 (a + 6) 0 = nI (M 0 4) ∧ d.1 (a + 11) 0 = nI (M 0 5)
  ∧ (∀ x, x < M 0 3 → d.1 (a + 2) x = nI (M 1 x))
  ∧ (∀ x t, x < M 0 3 → t < M 0 1 → d.1 (a + 3) (20 * x + t) = nI (M 2 (20 * x + t)) ∧ d.1 (a + 4) (20 * x + t) = nI (M 3 (20 * x + t)) ∧ d.1 (a + 5) (20 * x + t) = pm_m (M 4 (20 * x + t)))
  ∧ (∀ s, s < M 0 4 → d.1 (a + 7) s = nI (M 5 s) ∧ d.1 (a + 8) s = nI (M 6 s) ∧ d.1 (a + 9) s = nI (M 7 s))
  ∧ (∀ s e, s < M 0 4 → e < M 0 1 → d.1 (a + 10) (20 * s + e) = nI (M 8 (20 * s + e)))
  ∧ (∀ b, b < M 0 5 → d.1 (a + 12) b = nI (M 9 b) ∧ d.1 (a + 13) b = nI (M 10 b) ∧ d.1 (a + 14) b = nI (M 11 b) ∧ d.1 (a + 15) b = nI (M 12 b) ∧ d.1 (a + 16) b = nI (M 13 b) ∧ d.1 (a + 17) b = nI (M 14 b))
/-- the reference's market at places o .. o + 467 of cell w is M -/
def pm_R (d : ya_D) (w o : Nat) (M : pm_M) : Prop :=
  d.1 w (o + 4) = nI (M 0 0) ∧ d.1 w o = nI (M 0 1) ∧ d.1 w (o + 5) = nI (M 0 2) ∧ d.1 w (o + 1) = nI (M 0 3) ∧ d.1 w (o + 2) = nI (M 0 4) ∧ d.1 w (o + 3) = nI (M 0 5)
  ∧ (∀ x, x < M 0 3 → d.1 w (o + (6 + x)) = nI (M 1 x))
  ∧ (∀ x t, x < M 0 3 → t < M 0 1 → d.1 w (o + (11 + (20 * x + t))) = nI (M 2 (20 * x + t)) ∧ d.1 w (o + (111 + (20 * x + t))) = nI (M 3 (20 * x + t)) ∧ d.1 w (o + (211 + (20 * x + t))) = pm_m (M 4 (20 * x + t)))
  ∧ (∀ s, s < M 0 4 → d.1 w (o + (311 + 3 * s)) = nI (M 5 s) ∧ d.1 w (o + (311 + 3 * s + 2)) = nI (M 6 s) ∧ d.1 w (o + (311 + 3 * s + 1)) = nI (M 7 s))
  ∧ (∀ s e, s < M 0 4 → e < M 0 1 → d.1 w (o + (326 + (20 * s + e))) = nI (M 8 (20 * s + e)))
  ∧ (∀ b, b < M 0 5 → d.1 w (o + (426 + 6 * b)) = nI (M 9 b) ∧ d.1 w (o + (426 + 6 * b + 1)) = nI (M 10 b) ∧ d.1 w (o + (426 + 6 * b + 2)) = nI (M 11 b) ∧ d.1 w (o + (426 + 6 * b + 3)) = nI (M 12 b) ∧ d.1 w (o + (426 + 6 * b + 4)) = nI (M 13 b) ∧ d.1 w (o + (426 + 6 * b + 5)) = nI (M 14 b))
/-- the bounds that a market keeps -/
def pm_W (M : pm_M) : Prop :=
  M 0 0 ≤ 2000 ∧ M 0 1 ≤ 20 ∧ M 0 2 ≤ 99 ∧ M 0 3 ≤ 5 ∧ M 0 4 ≤ 5 ∧ M 0 5 ≤ 7 ∧ (M 0 0 = 0 ↔ M 0 1 = 0) ∧ (M 0 1 = 0 → M 0 3 = 0 ∧ M 0 4 = 0 ∧ M 0 5 = 0)
  ∧ (∀ x, x < M 0 3 → M 1 x ≤ 30)
  ∧ (∀ x t, x < M 0 3 → t < M 0 1 → M 2 (20 * x + t) ≤ 99 ∧ M 3 (20 * x + t) ≤ 99 ∧ M 4 (20 * x + t) ≤ 100)
  ∧ (∀ s, s < M 0 4 → M 5 s < M 0 3 ∧ M 6 s ≤ 99 ∧ M 7 s ≤ 99)
  ∧ (∀ s e, s < M 0 4 → e < M 0 1 → M 8 (20 * s + e) ≤ 99)
  ∧ (∀ b, b < M 0 5 → M 9 b < M 0 3 ∧ 1 ≤ M 10 b ∧ M 10 b ≤ 9 ∧ M 11 b ≤ 99 ∧ M 12 b ≤ M 13 b ∧ M 13 b < M 0 1 ∧ M 14 b ≤ 30)
/-- the reference holds M -/
abbrev pm_J (d : ya_D) (M : pm_M) : Prop := pm_R d 84 0 M ∧ pm_W M
def pm_I (d : ya_D) (M : pm_M) : Prop := pm_C d 24 M ∧ pm_R d 84 0 M ∧ pm_W M
section
variable {d : ya_D} {M : pm_M}
theorem pm_b (h : pm_W M) : M 0 0 ≤ 2000 ∧ M 0 1 ≤ 20 ∧ M 0 2 ≤ 99 ∧ M 0 3 ≤ 5 ∧ M 0 4 ≤ 5 ∧ M 0 5 ≤ 7 ∧ (M 0 0 = 0 ↔ M 0 1 = 0) ∧ (M 0 1 = 0 → M 0 3 = 0 ∧ M 0 4 = 0 ∧ M 0 5 = 0) := by
  obtain ⟨h0, h1, h2, h3, h4, h5, h6, h7, _⟩ := h
  exact ⟨h0, h1, h2, h3, h4, h5, h6, h7⟩
theorem pm_isMarket1 (h : pm_I d M) : f_X11_isMarket d = some (if M 0 1 = 0 then 0 else 1) := by
  have hb := pm_b h.2.2
  unfold f_X11_isMarket
  rw [h.1.1]
  by_cases e : M 0 1 = 0
  · rw [if_pos e, if_pos ((pn_le0 (M 0 0) (by omega)).mpr (by omega))]
  · rw [if_neg e, if_neg (fun q => e (by have := (pn_le0 (M 0 0) (by omega)).mp q; omega))]
theorem pm_isMarket2 (h : pm_J d M) : f_X12_isMarket d = some (if M 0 1 = 0 then 0 else 1) := by
  have hb := pm_b h.2
  unfold f_X12_isMarket
  rw [show ya_rI d 84 468 0 = some (nI (M 0 1)) from (pn_rI (t := 0) (by omega) (by omega)).trans (congrArg some h.1.2.1), Option.bind_some]
  by_cases e : M 0 1 = 0
  · rw [if_pos e, if_pos ((pn_le0 (M 0 1) (by omega)).mpr e)]
  · rw [if_neg e, if_neg (fun q => e ((pn_le0 (M 0 1) (by omega)).mp q))]
theorem pm_isThing1 (h : pm_I d M) (v : Int32) : f_X11_isThing v d = some (if pn_ok v (M 0 3) then 1 else 0) := by
  have hb := pm_b h.2.2
  unfold f_X11_isThing ya_j0
  dsimp only
  rw [show d.1 25 0 = nI (M 0 3) from h.1.2.2.2.1, pn_cl v (by omega)]
  split <;> rfl
theorem pm_isDay1 (h : pm_I d M) (v : Int32) : f_X11_isDay v d = some (if pn_ok v (M 0 1) then 1 else 0) := by
  have hb := pm_b h.2.2
  unfold f_X11_isDay ya_j0
  dsimp only
  rw [show d.1 24 1 = nI (M 0 1) from h.1.2.1, pn_cl v (by omega)]
  split <;> rfl
theorem pm_isSeller1 (h : pm_I d M) (v : Int32) : f_X11_isSeller v d = some (if pn_ok v (M 0 4) then 1 else 0) := by
  have hb := pm_b h.2.2
  unfold f_X11_isSeller ya_j0
  dsimp only
  rw [show d.1 30 0 = nI (M 0 4) from h.1.2.2.2.2.1, pn_cl v (by omega)]
  split <;> rfl
theorem pm_isBuyer1 (h : pm_I d M) (v : Int32) : f_X11_isBuyer v d = some (if pn_ok v (M 0 5) then 1 else 0) := by
  have hb := pm_b h.2.2
  unfold f_X11_isBuyer ya_j0
  dsimp only
  rw [show d.1 35 0 = nI (M 0 5) from h.1.2.2.2.2.2.1, pn_cl v (by omega)]
  split <;> rfl
theorem pm_isThing2 (h : pm_J d M) (v : Int32) : f_X12_isThing v.toInt64 d = some (if pn_ok v (M 0 3) then 1 else 0) := by
  have hb := pm_b h.2
  unfold f_X12_isThing
  rw [show (1 : Int32) = nI 1 from rfl, pn_rI (by omega) (by omega), Option.bind_some, show d.1 84 1 = nI (M 0 3) from h.1.2.2.2.1, show nI 1 = (1 : Int32) from rfl, pn_in v (by omega), Option.bind_some, pn_zz, Option.bind_some]
theorem pm_isDay2 (h : pm_J d M) (v : Int32) : f_X12_isDay v.toInt64 d = some (if pn_ok v (M 0 1) then 1 else 0) := by
  have hb := pm_b h.2
  unfold f_X12_isDay
  rw [show ya_rI d 84 468 0 = some (nI (M 0 1)) from (pn_rI (t := 0) (by omega) (by omega)).trans (congrArg some h.1.2.1), Option.bind_some, pn_in v (by omega), Option.bind_some, pn_zz, Option.bind_some]
theorem pm_isSeller2 (h : pm_J d M) (v : Int32) : f_X12_isSeller v d = some (if pn_ok v (M 0 4) then 1 else 0) := by
  have hb := pm_b h.2
  unfold f_X12_isSeller
  rw [show (2 : Int32) = nI 2 from rfl, pn_rI (by omega) (by omega), Option.bind_some, show d.1 84 2 = nI (M 0 4) from h.1.2.2.2.2.1, pn_in v (by omega), Option.bind_some, pn_zz, Option.bind_some]
theorem pm_isBuyer2 (h : pm_J d M) (v : Int32) : f_X12_isBuyer v d = some (if pn_ok v (M 0 5) then 1 else 0) := by
  have hb := pm_b h.2
  unfold f_X12_isBuyer
  rw [show (3 : Int32) = nI 3 from rfl, pn_rI (by omega) (by omega), Option.bind_some, show d.1 84 3 = nI (M 0 5) from h.1.2.2.2.2.2.1, pn_in v (by omega), Option.bind_some, pn_zz, Option.bind_some]
theorem pm_areSo1 (h : pm_I d M) (v w : Int32) : f_X11_isThingDay v w d = some (if pn_ok v (M 0 3) ∧ pn_ok w (M 0 1) then 1 else 0) := by
  unfold f_X11_isThingDay ya_j0
  dsimp only
  rw [pm_isThing1 h, Option.bind_some, pm_isDay1 h, Option.bind_some]
  by_cases h1 : pn_ok v (M 0 3) <;> by_cases h2 : pn_ok w (M 0 1) <;> simp [h1, h2]
theorem pm_areSo2 (h : pm_J d M) (v w : Int32) : f_X12_areSo v w d = some (if pn_ok v (M 0 3) ∧ pn_ok w (M 0 1) then 1 else 0) := by
  unfold f_X12_areSo ya_j0
  dsimp only
  rw [pm_isThing2 h, Option.bind_some, pm_isDay2 h, Option.bind_some]
  by_cases h1 : pn_ok v (M 0 3) <;> by_cases h2 : pn_ok w (M 0 1) <;> simp [h1, h2]
theorem pm_cell1 (x t : Nat) : f_X11_cell (nI x) (nI t) = some (nI (20 * x + t)) := by
  unfold f_X11_cell
  rw [show (20 : Int32) = nI 20 from rfl, pn_mul, nI_add, Nat.mul_comm]
theorem pm_cell2 (x t : Nat) : f_X12_at (nI x) (nI t) = some (nI (20 * x + t)) := by
  unfold f_X12_at
  rw [show (20 : Int32) = nI 20 from rfl, pn_mul, nI_add]
theorem pm_price1 (h : pm_I d M) (v w : Int32) : f_X11_price v w d = some (if pn_ok v (M 0 3) ∧ pn_ok w (M 0 1) then nI (M 2 (20 * v.toNatClampNeg + w.toNatClampNeg)) else -2) := by
  have hb := pm_b h.2.2
  unfold f_X11_price
  rw [pm_areSo1 h, Option.bind_some]
  by_cases e : pn_ok v (M 0 3) ∧ pn_ok w (M 0 1)
  · obtain ⟨x, hx, hx3, rfl⟩ := pn_ok_ex e.1
    obtain ⟨t, ht, ht3, rfl⟩ := pn_ok_ex e.2
    rw [if_pos e, if_pos e, if_neg (by decide), pm_cell1, Option.bind_some, pn_rI (by omega) (by omega), Option.bind_some, nI_clamp hx3, nI_clamp ht3, (h.1.2.2.2.2.2.2.2.1 x t hx ht).1]
  · rw [if_neg e, if_neg e, if_pos rfl]
theorem pm_price2 (h : pm_J d M) (v w : Int32) : f_X12_price v w d = some (if pn_ok v (M 0 3) ∧ pn_ok w (M 0 1) then nI (M 2 (20 * v.toNatClampNeg + w.toNatClampNeg)) else -2) := by
  have hb := pm_b h.2
  unfold f_X12_price
  rw [pm_areSo2 h, Option.bind_some]
  by_cases e : pn_ok v (M 0 3) ∧ pn_ok w (M 0 1)
  · obtain ⟨x, hx, hx3, rfl⟩ := pn_ok_ex e.1
    obtain ⟨t, ht, ht3, rfl⟩ := pn_ok_ex e.2
    unfold f_X12_priceOf
    rw [if_pos e, if_pos e, if_neg (by decide), pm_cell2, Option.bind_some, show (11 : Int32) = nI 11 from rfl, nI_add, pn_rI (by omega) (by omega), Option.bind_some, Option.bind_some, nI_clamp hx3, nI_clamp ht3]
    have := (h.1.2.2.2.2.2.2.2.1 x t hx ht).1
    rw [Nat.zero_add] at this
    rw [this]
  · rw [if_neg e, if_neg e, if_pos rfl]
theorem pm_old1 (h : pm_I d M) (v w : Int32) : f_X11_old v w d = some (if pn_ok v (M 0 3) ∧ pn_ok w (M 0 1) then nI (M 3 (20 * v.toNatClampNeg + w.toNatClampNeg)) else -2) := by
  have hb := pm_b h.2.2
  unfold f_X11_old
  rw [pm_areSo1 h, Option.bind_some]
  by_cases e : pn_ok v (M 0 3) ∧ pn_ok w (M 0 1)
  · obtain ⟨x, hx, hx3, rfl⟩ := pn_ok_ex e.1
    obtain ⟨t, ht, ht3, rfl⟩ := pn_ok_ex e.2
    rw [if_pos e, if_pos e, if_neg (by decide), pm_cell1, Option.bind_some, pn_rI (by omega) (by omega), Option.bind_some, nI_clamp hx3, nI_clamp ht3, (h.1.2.2.2.2.2.2.2.1 x t hx ht).2.1]
  · rw [if_neg e, if_neg e, if_pos rfl]
theorem pm_old2 (h : pm_J d M) (v w : Int32) : f_X12_old v w d = some (if pn_ok v (M 0 3) ∧ pn_ok w (M 0 1) then nI (M 3 (20 * v.toNatClampNeg + w.toNatClampNeg)) else -2) := by
  have hb := pm_b h.2
  unfold f_X12_old
  rw [pm_areSo2 h, Option.bind_some]
  by_cases e : pn_ok v (M 0 3) ∧ pn_ok w (M 0 1)
  · obtain ⟨x, hx, hx3, rfl⟩ := pn_ok_ex e.1
    obtain ⟨t, ht, ht3, rfl⟩ := pn_ok_ex e.2
    rw [if_pos e, if_pos e, if_neg (by decide), pm_cell2, Option.bind_some, show (111 : Int32) = nI 111 from rfl, nI_add, pn_rI (by omega) (by omega), Option.bind_some, nI_clamp hx3, nI_clamp ht3]
    have := (h.1.2.2.2.2.2.2.2.1 x t hx ht).2.1
    rw [Nat.zero_add] at this
    rw [this]
  · rw [if_neg e, if_neg e, if_pos rfl]
end

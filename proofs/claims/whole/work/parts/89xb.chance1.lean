/-! Chance: the class's sum -/
theorem pc_bit : ∀ z, z < 128 → ∀ j, j < 7 → ((nI z >>> (nI j &&& 31)) &&& 1) = if z.testBit j = true then 1 else 0 := by decide +kernel
theorem pc_bc : ∀ n, n < 8 → ∀ z, z < 128 → z < 2 ^ n → f_J6_bitCount_0f7a4 (nI z) = some (nI (pc_W (fun _ => 1) z n)) := by decide +kernel
theorem pc_fr : ∀ k, k < 8 → ya_fr (nI k) = some (nI (pc_f k)) := by decide +kernel
theorem pc_fl : ∀ k, k < 8 → pc_f k < 5041 := by decide +kernel
theorem pc_2n : ∀ n, n < 8 → 2 ^ n ≤ 128 := by decide
theorem pc_ok_m {A : Nat → Bool} {z m : Nat} : ∀ n, m ≤ n → pc_ok A z n = true → pc_ok A z m = true
  | 0, h, h2 => by rw [show m = 0 by omega]; exact h2
  | n + 1, h, h2 => by
    by_cases c : m = n + 1
    · rw [c]; exact h2
    · rw [pc_ok, Bool.and_eq_true] at h2
      exact pc_ok_m n (by omega) h2.1
theorem pc_ok_o {A c : Nat → Bool} {z b : Nat} (hA : ∀ i, A i = (c i && !decide (i = b))) : ∀ n, n ≤ b → pc_ok A z n = pc_ok c z n
  | 0, _ => rfl
  | n + 1, h => by
    rw [pc_ok, pc_ok, pc_ok_o hA n (by omega), hA, decide_eq_false (by omega), Bool.not_false, Bool.and_true]
theorem pc_ok_i {A c : Nat → Bool} {z b : Nat} (hA : ∀ i, A i = (c i && !decide (i = b))) : ∀ n, b < n → pc_ok A z n = (pc_ok c z n && !z.testBit b)
  | 0, h => absurd h (Nat.not_lt_zero b)
  | n + 1, h => by
    rw [pc_ok, pc_ok]
    by_cases e : b = n
    · subst e
      rw [pc_ok_o hA b (Nat.le_refl b), hA, decide_eq_true rfl]
      cases pc_ok c z b <;> cases z.testBit b <;> cases c b <;> rfl
    · rw [pc_ok_i hA n (by omega), hA, decide_eq_false (by omega)]
      cases pc_ok c z n <;> cases z.testBit b <;> cases c n <;> cases z.testBit n <;> rfl
section
variable {d e : ya_D} {M M' : pm_M}
theorem pc_allCome (hC : pm_C d 24 M) (hW : pm_W M) {x t y z : Nat} (hx : x < 2 ^ 31) (ht : t < 2 ^ 31) (hy : y < 2 ^ 31) (hz : z < 128) : f_X1_allCome 35 (nI z) (nI x) (nI t) (nI y) d = some (if pc_ok (fun b => decide (pm_co M x t y b)) z (M 0 5) = true then 1 else 0) := by
  obtain ⟨⟨b0, b1, b2, b3, b4, b5⟩, -⟩ := pk_w hW
  have hn := (pk_c hC).2.2.2.2.2
  unfold f_X1_allCome
  have key := pq_lp (G := fun fu i (_ : Unit) => f_X1_allCome_L3 35 (nI z) (nI x) (nI t) (nI y) d fu (nI i)) (E := fun r : Int32 => some r) (n := M 0 5)
    (I := fun i _ => pc_ok (fun b => decide (pm_co M x t y b)) z i = true) (Q := fun r => r = if pc_ok (fun b => decide (pm_co M x t y b)) z (M 0 5) = true then 1 else 0)
    (fun fu s hs => ⟨1, by rw [if_pos hs], by rw [f_X1_allCome_L3, hn.1, if_pos (by rw [pn_le (by omega) (by omega)]; omega)]⟩)
    (fun fu i s hi hs => by
      have hstep : f_X1_allCome_L3 35 (nI z) (nI x) (nI t) (nI y) d (fu + 1) (nI i) = if z.testBit i = true ∧ ¬ pm_co M x t y i then some 0 else f_X1_allCome_L3 35 (nI z) (nI x) (nI t) (nI y) d fu (nI (i + 1)) := by
        rw [f_X1_allCome_L3, hn.1, if_neg (by rw [pn_le (by omega) (by omega)]; omega), pj_0, nI_1, pc_bit z hz i (by omega), pk_comes hC hW hi hx ht hy, pb_s]
        by_cases c1 : z.testBit i = true
        · rw [if_pos c1, if_pos rfl]
          by_cases c2 : pm_co M x t y i
          · rw [if_pos c2, if_neg pn_10, if_neg (fun q => q.2 c2)]
          · rw [if_neg c2, if_pos rfl, if_pos ⟨c1, c2⟩]
        · rw [if_neg c1, if_neg (by decide), if_neg (fun q => c1 q.1)]
      rw [hstep]
      by_cases c : z.testBit i = true ∧ ¬ pm_co M x t y i
      · refine Or.inl ⟨0, ?_, if_pos c⟩
        rw [if_neg]
        intro q
        have := pc_ok_m (m := i + 1) (M 0 5) (by omega) q
        rw [pc_ok, c.1, Bool.and_eq_true, decide_eq_false c.2] at this
        exact absurd this.2 (by decide)
      · refine Or.inr ⟨(), ?_, if_neg c⟩
        rw [pc_ok, hs, Bool.true_and]
        cases h1 : z.testBit i with
        | false => rfl
        | true =>
          rw [decide_eq_true]
          · rfl
          · by_cases c2 : pm_co M x t y i
            · exact c2
            · exact absurd ⟨h1, c2⟩ c)
  obtain ⟨r, rfl, k⟩ := key ya_F 0 () (by omega) (by rw [ya_F]; omega) rfl
  exact k
theorem pc_wantsOf (hC : pm_C d 24 M) (hW : pm_W M) {z : Nat} (hz : z < 128) : f_X1_wantsOf 35 (nI z) d = some (nI (pc_W (M 10) z (M 0 5))) := by
  obtain ⟨⟨b0, b1, b2, b3, b4, b5⟩, -⟩ := pk_w hW
  have hn := (pk_c hC).2.2.2.2.2
  unfold f_X1_wantsOf
  refine pn_lp (G := fun fu i => f_X1_wantsOf_L4 35 (nI z) d fu (nI (pc_W (M 10) z i)) (nI i)) (n := M 0 5) (fun fu => ?_) (fun fu i hi => ?_) ya_F 0 (by omega) (by unfold ya_F; omega)
  · show f_X1_wantsOf_L4 _ _ _ (fu + 1) _ _ = _
    rw [f_X1_wantsOf_L4, hn.1, if_pos (by rw [pn_le (by omega) (by omega)]; omega)]
  · show f_X1_wantsOf_L4 _ _ _ (fu + 1) _ _ = f_X1_wantsOf_L4 _ _ _ fu _ _
    have hw : ya_rI d (35 + 2) 7 (nI i) = some (nI (M 10 i)) := by rw [pn_rI (by omega) (by omega)]; exact congrArg some (hC.2.2.2.2.2.2.2.2.2.2 i hi).2.1
    have e1 : pc_W (M 10) z (i + 1) = pc_W (M 10) z i + if z.testBit i = true then M 10 i else 0 := rfl
    rw [f_X1_wantsOf_L4, hn.1, if_neg (by rw [pn_le (by omega) (by omega)]; omega), pj_1, nI_1, pc_bit z hz i (by omega), hw, pb_s, nI_add, e1]
    by_cases c1 : z.testBit i = true
    · rw [if_pos c1, if_pos c1, if_pos rfl]
    · rw [if_neg c1, if_neg c1, if_neg (by decide)]; rfl
end

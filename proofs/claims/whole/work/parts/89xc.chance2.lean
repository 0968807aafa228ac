/-! Chance: the class's sum of orders -/
/-- the orders of a set before him and of the others behind him, where the set is not too great -/
def pc_p (O : Int32) (B N : Nat) (k s : Nat) : Nat := if ¬ O < nI (s + B) ∧ k ≤ N then pc_f k * pc_f (N - k) else 0
section
variable {d e : ya_D} {M M' : pm_M}
theorem pc_orders1 (hC : pm_C d 24 M) (hW : pm_W M) {b x t y N : Nat} (O : Int32) (hb : b < M 0 5) (hx : x < 2 ^ 31) (ht : t < 2 ^ 31) (hy : y < 2 ^ 31) (hN : N < 8) (z5 : Int32) : f_X11_ordersWithAll_L37 (nI b) (nI t) (nI y) O (nI x) (nI N) d ya_F (nI 0) (nI 0) = some (nI (pc_T (fun i => decide (pm_co M x t y i) && !decide (i = b)) (M 10) (pc_p O (M 10 b) N) (M 0 5) 0 0)) := by
  obtain ⟨⟨b0, b1, b2, b3, b4, b5⟩, -⟩ := pk_w hW
  have hn := (pk_c hC).2.2.2.2.2
  have h2 := pc_2n (M 0 5) (by omega)
  have hbu := pm_bu hW hb
  have hw : ya_rI d 37 7 (nI b) = some (nI (M 10 b)) := by rw [pn_rI (by omega) (by omega)]; exact congrArg some (hC.2.2.2.2.2.2.2.2.2.2 b hb).2.1
  obtain ⟨A, hA⟩ : ∃ A : Nat → Bool, A = fun i => decide (pm_co M x t y i) && !decide (i = b) := ⟨_, rfl⟩
  obtain ⟨c, hc⟩ : ∃ c : Nat → Bool, c = fun i => decide (pm_co M x t y i) := ⟨_, rfl⟩
  have hAc : ∀ i, A i = (c i && !decide (i = b)) := fun i => by rw [hA, hc]
  rw [← hA, ← pc_sum]
  obtain ⟨g, hg⟩ : ∃ g : Nat → Nat, g = fun z => if pc_ok A z (M 0 5) = true then pc_p O (M 10 b) N (0 + pc_W (fun _ => 1) z (M 0 5)) (0 + pc_W (M 10) z (M 0 5)) else 0 := ⟨_, rfl⟩
  rw [← hg]
  refine pn_lp (G := fun fu i => f_X11_ordersWithAll_L37 (nI b) (nI t) (nI y) O (nI x) (nI N) d fu (nI (pn_sum g i)) (nI i)) (n := 2 ^ M 0 5) (fun fu => ?_) (fun fu z hz => ?_) ya_F 0 (Nat.zero_le _) (by unfold ya_F; omega)
  · show f_X11_ordersWithAll_L37 _ _ _ _ _ _ _ (fu + 1) _ _ = _
    rw [f_X11_ordersWithAll_L37, hn.1, pv_sh1 _ (by omega), if_pos (by rw [pn_le (by omega) (by omega)]; omega)]
  · show f_X11_ordersWithAll_L37 _ _ _ _ _ _ _ (fu + 1) _ _ = f_X11_ordersWithAll_L37 _ _ _ _ _ _ _ fu _ _
    have hW1 : pc_W (M 10) z (M 0 5) ≤ 63 := by
      have h1 : pc_W (M 10) z (M 0 5) ≤ pn_sum (fun _ => 9) (M 0 5) := pn_sum_mm _ (fun i hi => by
        have := pm_bu hW hi
        by_cases q : z.testBit i = true
        · rw [if_pos q]; omega
        · rw [if_neg q]; omega)
      have h2 : ∀ n, pn_sum (fun _ => 9) n = 9 * n := fun n => by
        induction n with
        | zero => rfl
        | succ n ih => rw [pn_sum, ih]; omega
      rw [h2] at h1
      omega
    have hK1 : pc_W (fun _ => 1) z (M 0 5) ≤ M 0 5 := by
      have h1 : pc_W (fun _ => 1) z (M 0 5) ≤ pn_sum (fun _ => 1) (M 0 5) := pn_sum_mm _ (fun i hi => by
        dsimp only
        by_cases q : z.testBit i = true
        · rw [if_pos q]; omega
        · rw [if_neg q]; omega)
      have h2 : ∀ n, pn_sum (fun _ => 1) n = n := fun n => by
        induction n with
        | zero => rfl
        | succ n ih => rw [pn_sum, ih]
      rw [h2] at h1
      exact h1
    have e1 : pn_sum g (z + 1) = pn_sum g z + g z := rfl
    rw [f_X11_ordersWithAll_L37, hn.1, pv_sh1 _ (by omega), if_neg (by rw [pn_le (by omega) (by omega)]; omega), pc_allCome hC hW hx ht hy (by omega), pb_s, pj_1, ← hc, nI_1, e1]
    have hok := pc_ok_i (z := z) hAc (M 0 5) hb
    by_cases c1 : pc_ok c z (M 0 5) = true
    · rw [if_pos c1, if_neg pn_10, pc_bit z (by omega) b (by omega)]
      by_cases c2 : z.testBit b = true
      · have g0 : g z = 0 := by rw [hg]; dsimp only; rw [hok, c2, Bool.not_true, Bool.and_false, if_neg (by decide)]
        rw [if_pos c2, if_neg pn_10, g0]; rfl
      · have c2' : z.testBit b = false := by simpa using c2
        have g1 : g z = pc_p O (M 10 b) N (pc_W (fun _ => 1) z (M 0 5)) (pc_W (M 10) z (M 0 5)) := by
          rw [hg]; dsimp only; rw [hok, c1, c2', Bool.not_false, Bool.and_true, if_pos rfl, Nat.zero_add, Nat.zero_add]
        rw [if_neg c2, if_pos rfl, pc_bc _ (by omega) z (by omega) hz, pb_s, pc_wantsOf hC hW (by omega), pb_s, hw, pb_s, pj_1, nI_add]
        by_cases c3 : ¬ O < nI (pc_W (M 10) z (M 0 5) + M 10 b)
        · rw [if_neg c3]
          dsimp only
          rw [if_neg pn_10]
          by_cases c4 : pc_W (fun _ => 1) z (M 0 5) ≤ N
          · rw [if_neg (by rw [pn_lt (by omega) (by omega)]; omega), pc_fr _ (by omega), pb_s, pn_sub c4, pc_fr _ (by omega), pb_s, pn_mul, nI_add, g1, pc_p, if_pos ⟨c3, c4⟩]
          · rw [if_pos (by rw [pn_lt (by omega) (by omega)]; omega), g1, pc_p, if_neg (fun q => c4 q.2)]; rfl
        · rw [if_pos (Decidable.not_not.mp c3)]
          dsimp only
          rw [if_pos rfl, g1, pc_p, if_neg (fun q => c3 q.1)]; rfl
    · have c1' : pc_ok c z (M 0 5) = false := by simpa using c1
      have g0 : g z = 0 := by rw [hg]; dsimp only; rw [hok, c1', Bool.false_and, if_neg (by decide)]
      rw [if_neg c1, if_pos rfl, g0]; rfl
end

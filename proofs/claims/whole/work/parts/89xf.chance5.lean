/-! Chance: the reference's sum of orders -/
theorem pc_m_sur (c : Nat → Bool) : ∀ L j, j < pc_m c L → ∃ n, n < L ∧ c n = true ∧ pc_m c n = j
  | 0, j, h => absurd h (Nat.not_lt_zero j)
  | L + 1, j, h => by
    rw [pc_m_s] at h
    by_cases q : c L = true
    · rw [if_pos q] at h
      by_cases e : j = pc_m c L
      · exact ⟨L, by omega, q, e.symm⟩
      · obtain ⟨n, h1, h2, h3⟩ := pc_m_sur c L j (by omega)
        exact ⟨n, by omega, h2, h3⟩
    · rw [if_neg q] at h
      obtain ⟨n, h1, h2, h3⟩ := pc_m_sur c L j (by omega)
      exact ⟨n, by omega, h2, h3⟩
theorem pc_m_lt {A : Nat → Bool} {j : Nat} (hA : A j = false) : ∀ n, j < n → pc_m A n + 1 ≤ n
  | 0, h => absurd h (Nat.not_lt_zero j)
  | n + 1, h => by
    rw [pc_m_s]
    by_cases e : j = n
    · rw [← e, hA, if_neg (by decide)]
      have := pc_m_le A j
      omega
    · have := pc_m_lt hA n (by omega)
      by_cases q : A n = true
      · rw [if_pos q]; omega
      · rw [if_neg q]; omega
section
variable {d e : ya_D} {M M' : pm_M}
theorem pc_orders2 (hJ : pm_J e M) {b m : Nat} (O : Int32) {o : Nat → Nat} (hb : b < M 0 5) (hm : m ≤ M 0 5) (ho : ∀ j, j < m → o j < M 0 5 ∧ e.1 101 j = nI (o j)) (hex : ∃ j, j < m ∧ o j = b) : f_X12_orders (nI b) (nI m) O e = some (nI (pc_T (fun j => !decide (o j = b)) (fun j => M 10 (o j)) (pc_p O (M 10 b) (m - 1)) m 0 0)) := by
  obtain ⟨⟨b0, b1, b2, b3, b4, b5⟩, -⟩ := pk_w hJ.2
  have h2 := pc_2n m (by omega)
  have hbu := pm_bu hJ.2 hb
  obtain ⟨j0, hj0, ej0⟩ := hex
  obtain ⟨A, hA⟩ : ∃ A : Nat → Bool, A = fun j => !decide (o j = b) := ⟨_, rfl⟩
  obtain ⟨w, hw⟩ : ∃ w : Nat → Nat, w = fun j => M 10 (o j) := ⟨_, rfl⟩
  have hof : ∀ q, q < M 0 5 → f_X12_of (nI q) 1 e = some (nI (M 10 q)) := fun q hq => by
    rw [show (1 : Int32) = nI 1 from rfl, pm_of (by omega)]
    have := ((pk_r hJ.1).2.2.2.2.2.2.2.2.2.2 q hq).2.1
    exact congrArg some this
  rw [← hA, ← hw, ← pc_sum]
  obtain ⟨g, hg⟩ : ∃ g : Nat → Nat, g = fun z => if pc_ok A z m = true then pc_p O (M 10 b) (m - 1) (0 + pc_W (fun _ => 1) z m) (0 + pc_W w z m) else 0 := ⟨_, rfl⟩
  rw [← hg]
  have hone : ∀ (z : Nat) (v4 : Int32) (K : Int32 → Int32 → Int32 → Option Int32), z < 128 → f_X12_orders_L26 (nI b) (nI m) O v4 (nI z) e K ya_F (nI 0) (nI 0) 1 (nI 0) = K (nI (pc_W (fun _ => 1) z m)) (nI (pc_W w z m)) (if pc_ok A z m = true then 1 else 0) := fun z v4 K hz => by
    refine pn_lp (G := fun fu i => f_X12_orders_L26 (nI b) (nI m) O v4 (nI z) e K fu (nI (pc_W (fun _ => 1) z i)) (nI (pc_W w z i)) (if pc_ok A z i = true then 1 else 0) (nI i)) (n := m) (fun fu => ?_) (fun fu i hi => ?_) ya_F 0 (by omega) (by unfold ya_F; omega)
    · show f_X12_orders_L26 _ _ _ _ _ _ _ (fu + 1) _ _ _ _ = _
      rw [f_X12_orders_L26, if_pos (by rw [pn_le (by omega) (by omega)]; omega)]
    · show f_X12_orders_L26 _ _ _ _ _ _ _ (fu + 1) _ _ _ _ = f_X12_orders_L26 _ _ _ _ _ _ _ fu _ _ _ _
      obtain ⟨o1, o2⟩ := ho i hi
      have s1 : ∀ w' : Nat → Nat, pc_W w' z (i + 1) = pc_W w' z i + if z.testBit i = true then w' i else 0 := fun _ => rfl
      have wi : w i = M 10 (o i) := by rw [hw]
      rw [f_X12_orders_L26, if_neg (by rw [pn_le (by omega) (by omega)]; omega), pj_3, pc_bit z hz i (by omega), pj_1, pj_0, s1, s1, pc_ok, nI_1]
      by_cases c1 : z.testBit i = true
      · rw [if_pos c1, if_neg pn_10, c1, if_pos rfl, if_pos rfl, pn_rI (by omega) (by omega), pb_s, o2, Bool.not_true, Bool.false_or]
        cases h3 : pc_ok A z i with
        | false =>
          rw [if_neg Bool.false_ne_true, if_pos rfl]
          dsimp only
          rw [pb_s, hof _ o1, pb_s, nI_1, nI_add, wi]
          rfl
        | true =>
          rw [if_pos rfl, if_neg pn_10]
          by_cases c2 : o i = b
          · have h4 : A i = false := by rw [hA]; dsimp only; rw [c2, decide_eq_true rfl]; rfl
            rw [if_pos (by rw [c2])]
            dsimp only
            rw [pb_s, hof _ o1, pb_s, nI_1, nI_add, wi, h4]
            rfl
          · have h4 : A i = true := by rw [hA]; dsimp only; rw [decide_eq_false c2]; rfl
            rw [if_neg (by rw [nI_eq (by omega) (by omega)]; exact c2)]
            dsimp only
            rw [pb_s, hof _ o1, pb_s, nI_1, nI_add, wi, h4]
            rfl
      · have c1' : z.testBit i = false := by simpa using c1
        rw [if_neg c1, if_pos rfl, c1', if_neg (show ¬ (false = true) from Bool.false_ne_true), if_neg (show ¬ (false = true) from Bool.false_ne_true), Bool.not_false, Bool.true_or, Bool.and_true]; rfl
  unfold f_X12_orders
  refine pn_lp (G := fun fu i => f_X12_orders_L6 (nI b) (nI m) O e fu (nI (pn_sum g i)) (nI i)) (n := 2 ^ m) (fun fu => ?_) (fun fu z hz => ?_) ya_F 0 (Nat.zero_le _) (by unfold ya_F; omega)
  · show f_X12_orders_L6 _ _ _ _ (fu + 1) _ _ = _
    rw [f_X12_orders_L6, pv_sh1 _ (by omega), if_pos (by rw [pn_le (by omega) (by omega)]; omega)]
  · show f_X12_orders_L6 _ _ _ _ (fu + 1) _ _ = f_X12_orders_L6 _ _ _ _ fu _ _
    have e1 : pn_sum g (z + 1) = pn_sum g z + g z := rfl
    have hW1 : pc_W w z m ≤ 63 := by
      have h1 : pc_W w z m ≤ pn_sum (fun _ => 9) m := pn_sum_mm _ (fun i hi => by
        have := pm_bu hJ.2 (ho i hi).1
        have wi : w i = M 10 (o i) := by rw [hw]
        by_cases q : z.testBit i = true
        · rw [if_pos q]; omega
        · rw [if_neg q]; omega)
      have h2 : ∀ n, pn_sum (fun _ => 9) n = 9 * n := fun n => by
        induction n with
        | zero => rfl
        | succ n ih => rw [pn_sum, ih]; omega
      rw [h2] at h1
      omega
    rw [f_X12_orders_L6, pv_sh1 _ (by omega), if_neg (by rw [pn_le (by omega) (by omega)]; omega), show (0 : Int32) = nI 0 from rfl, hone z _ _ (by omega), e1]
    rw [pj_1, nI_1]
    by_cases c1 : pc_ok A z m = true
    · have hk : pc_W (fun _ => 1) z m ≤ m - 1 := by
        have h1 := pc_W_le (w := fun _ => 1) m c1
        have h3 := pc_m_lt (A := A) (j := j0) (by rw [hA]; dsimp only; rw [ej0, decide_eq_true rfl]; rfl) m hj0
        unfold pc_m at h3
        omega
      have g1 : g z = pc_p O (M 10 b) (m - 1) (pc_W (fun _ => 1) z m) (pc_W w z m) := by
        rw [hg]; dsimp only; rw [if_pos c1, Nat.zero_add, Nat.zero_add]
      rw [if_pos c1, if_neg (show ¬ (1 : Int32) = nI 0 by decide), hof b hb, pb_s, nI_add]
      by_cases c3 : ¬ O < nI (pc_W w z m + M 10 b)
      · rw [if_neg c3, pc_fac (by omega), pb_s, show (1 : Int32) = nI 1 from rfl, pn_sub (by omega), pn_sub hk, pc_fac (by omega), pb_s, pn_mul, nI_add, g1, pc_p, if_pos ⟨c3, hk⟩]
      · rw [if_pos (Decidable.not_not.mp c3), g1, pc_p, if_neg (fun q => c3 q.1)]; rfl
    · have g0 : g z = 0 := by rw [hg]; dsimp only; rw [if_neg c1]
      rw [if_neg c1, if_pos (show (0 : Int32) = nI 0 from rfl), g0]; rfl
end

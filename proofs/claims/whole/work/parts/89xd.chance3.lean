/-! Chance: common divisor, factorial -/
theorem pc_rm {a b : Nat} (ha : a < 2 ^ 31) (hb : b < 2 ^ 31) (h0 : b ≠ 0) : ya_rm (nI a) (nI b) = some (nI (a % b)) := by
  have hz : ¬ nI b = 0 := by rw [show (0 : Int32) = nI 0 from rfl, nI_eq hb (by omega)]; exact h0
  have h1 : a / b * b ≤ a := Nat.div_mul_le_self a b
  have h2 : a % b = a - a / b * b := by
    have := Nat.div_add_mod a b
    rw [Nat.mul_comm] at this
    omega
  rw [ya_rm, if_neg hz, pk_div (by omega) (by omega) (by omega), pn_mul, pn_sub h1, h2]
theorem pc_gcd : ∀ k a b i fu fu', b < 2 ^ k → k ≤ 30 → a < 2 ^ 31 → i + 2 * k < 100 → 2 * k < fu → 2 * k < fu' → ∃ g, f_X11_commonDivisor_L7 fu (nI a) (nI b) (nI i) = some (nI g) ∧ f_X12_divisor_L4 fu' (nI a) (nI b) = some (nI g) ∧ g < 2 ^ 31 ∧ (0 < a ∨ 0 < b → 0 < g) := by
  intro k
  induction k with
  | zero =>
    intro a b i fu fu' hb hk ha hi hf hf'
    obtain rfl : b = 0 := by omega
    obtain ⟨f, rfl⟩ : ∃ f, fu = f + 1 := ⟨fu - 1, by omega⟩
    obtain ⟨f', rfl⟩ : ∃ f, fu' = f + 1 := ⟨fu' - 1, by omega⟩
    refine ⟨a, ?_, ?_, ha, fun h => by omega⟩
    · rw [f_X11_commonDivisor_L7, if_neg (by rw [show (100 : Int32) = nI 100 from rfl, pn_le (by omega) (by omega)]; omega), if_pos (show nI 0 = 0 from rfl)]
    · rw [f_X12_divisor_L4, if_pos (show nI 0 = 0 from rfl)]
  | succ k ih =>
    intro a b i fu fu' hb hk ha hi hf hf'
    have h31 : 2 ^ (k + 1) ≤ 2 ^ 30 := Nat.pow_le_pow_right (by omega) hk
    have h31' : (2 : Nat) ^ 30 < 2 ^ 31 := by decide
    obtain ⟨f, rfl⟩ : ∃ f, fu = f + 2 := ⟨fu - 2, by omega⟩
    obtain ⟨f', rfl⟩ : ∃ f, fu' = f + 2 := ⟨fu' - 2, by omega⟩
    by_cases c : b = 0
    · subst c
      refine ⟨a, ?_, ?_, ha, fun h => by omega⟩
      · rw [f_X11_commonDivisor_L7, if_neg (by rw [show (100 : Int32) = nI 100 from rfl, pn_le (by omega) (by omega)]; omega), if_pos (show nI 0 = 0 from rfl)]
      · rw [f_X12_divisor_L4, if_pos (show nI 0 = 0 from rfl)]
    · have hbz : ¬ nI b = 0 := by rw [show (0 : Int32) = nI 0 from rfl, nI_eq (by omega) (by omega)]; exact c
      have hr : a % b < b := Nat.mod_lt _ (by omega)
      rw [f_X11_commonDivisor_L7, if_neg (by rw [show (100 : Int32) = nI 100 from rfl, pn_le (by omega) (by omega)]; omega), if_neg hbz, pc_rm ha (by omega) c, pb_s, nI_1, f_X12_divisor_L4, if_neg hbz, pc_rm ha (by omega) c, pb_s]
      by_cases c2 : a % b = 0
      · rw [c2]
        refine ⟨b, ?_, ?_, by omega, fun _ => by omega⟩
        · rw [f_X11_commonDivisor_L7, if_neg (by rw [show (100 : Int32) = nI 100 from rfl, pn_le (by omega) (by omega)]; omega), if_pos (show nI 0 = 0 from rfl)]
        · rw [f_X12_divisor_L4, if_pos (show nI 0 = 0 from rfl)]
      · have hrz : ¬ nI (a % b) = 0 := by rw [show (0 : Int32) = nI 0 from rfl, nI_eq (by omega) (by omega)]; exact c2
        have hr2 : b % (a % b) < a % b := Nat.mod_lt _ (by omega)
        have hr3 : b % (a % b) + a % b ≤ b := by
          have h1 := Nat.div_add_mod b (a % b)
          have h2 : 0 < b / (a % b) := Nat.div_pos (by omega) (by omega)
          have h3 : a % b * 1 ≤ a % b * (b / (a % b)) := Nat.mul_le_mul_left _ h2
          omega
        have h4 : b % (a % b) < 2 ^ k := by
          have : 2 ^ (k + 1) = 2 * 2 ^ k := by rw [Nat.pow_succ]; omega
          omega
        rw [f_X11_commonDivisor_L7, if_neg (by rw [show (100 : Int32) = nI 100 from rfl, pn_le (by omega) (by omega)]; omega), if_neg hrz, pc_rm (by omega) (by omega) c2, pb_s, nI_1, f_X12_divisor_L4, if_neg hrz, pc_rm (by omega) (by omega) c2, pb_s]
        obtain ⟨g, g1, g2, g3, g4⟩ := ih (a % b) (b % (a % b)) (i + 1 + 1) f f' h4 (by omega) (by omega) (by omega) (by omega) (by omega)
        exact ⟨g, g1, g2, g3, fun _ => g4 (Or.inl (by omega))⟩
theorem pc_div {a b : Nat} (ha : a < 2 ^ 31) (hb : b < 2 ^ 13) : ∃ g, f_X11_commonDivisor (nI a) (nI b) = some (nI g) ∧ f_X12_divisor (nI a) (nI b) = some (nI g) ∧ g < 2 ^ 31 ∧ (0 < a ∨ 0 < b → 0 < g) := by
  obtain ⟨g, g1, g2, g3⟩ := pc_gcd 13 a b 0 ya_F ya_F hb (by omega) ha (by omega) (by unfold ya_F; omega) (by unfold ya_F; omega)
  exact ⟨g, g1, g2, g3⟩
theorem pc_fac {k : Nat} (hk : k < 8) : f_X12_factorial (nI k) = some (nI (pc_f k)) := by
  unfold f_X12_factorial
  by_cases c : k = 0
  · subst c; rw [show ya_F = 9999 + 1 from rfl, f_X12_factorial_L4, if_pos (by decide)]; rfl
  · obtain ⟨n, rfl⟩ : ∃ n, k = n + 1 := ⟨k - 1, by omega⟩
    have key : ∀ m fu, m ≤ n → n < m + fu → f_X12_factorial_L4 (nI (n + 1)) fu (nI (pc_f (m + 1))) (nI (m + 2)) = some (nI (pc_f (n + 1))) := fun m fu h1 h2 =>
      pn_lp (G := fun fu m => f_X12_factorial_L4 (nI (n + 1)) fu (nI (pc_f (m + 1))) (nI (m + 2))) (n := n) (fun fu => by
        show f_X12_factorial_L4 _ (fu + 1) _ _ = _
        rw [f_X12_factorial_L4, if_pos (by rw [pn_lt (by omega) (by omega)]; omega)]) (fun fu i hi => by
        show f_X12_factorial_L4 _ (fu + 1) _ _ = f_X12_factorial_L4 _ fu _ _
        rw [f_X12_factorial_L4, if_neg (by rw [pn_lt (by omega) (by omega)]; omega), pn_mul, nI_1, show pc_f (i + 1) * (i + 2) = pc_f (i + 1 + 1) from Nat.mul_comm _ _]) fu m h1 h2
    exact key 0 ya_F (by omega) (by unfold ya_F; omega)
/-- the same sum, told over the places of those who come -/
theorem pc_T_p {c A A' : Nat → Bool} {w w' : Nat → Nat} (φ : Nat → Nat → Nat) (m : Nat → Nat) (L : Nat) (h0 : m 0 = 0) (hs : ∀ n, n < L → (c n = true → m (n + 1) = m n + 1 ∧ A' (m n) = A n ∧ w' (m n) = w n) ∧ (c n = false → m (n + 1) = m n ∧ A n = false)) : ∀ n k s, n ≤ L → pc_T A w φ n k s = pc_T A' w' φ (m n) k s
  | 0, k, s, _ => by rw [h0]; rfl
  | n + 1, k, s, hn => by
    cases hc : c n with
    | true =>
      obtain ⟨h1, h2, h3⟩ := (hs n (by omega)).1 hc
      rw [h1, pc_T, pc_T, h2, h3, pc_T_p φ m L h0 hs n _ _ (by omega), pc_T_p φ m L h0 hs n _ _ (by omega)]
    | false =>
      obtain ⟨h1, h2⟩ := (hs n (by omega)).2 hc
      rw [h1, pc_T, h2, if_neg (by decide), Nat.add_zero, pc_T_p φ m L h0 hs n _ _ (by omega)]

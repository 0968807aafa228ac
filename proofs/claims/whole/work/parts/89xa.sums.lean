/-! Chance: sums over sets -/
theorem pn_sum_split (f : Nat → Nat) (a : Nat) : ∀ b, pn_sum f (a + b) = pn_sum f a + pn_sum (fun i => f (a + i)) b
  | 0 => rfl
  | b + 1 => by
    rw [← Nat.add_assoc, pn_sum, pn_sum, pn_sum_split f a b, Nat.add_assoc]
/-- the sum of φ over the sets of allowed ones below n, k and s to begin with -/
def pc_T (A : Nat → Bool) (w : Nat → Nat) (φ : Nat → Nat → Nat) : Nat → Nat → Nat → Nat
  | 0, k, s => φ k s
  | n + 1, k, s => pc_T A w φ n k s + if A n = true then pc_T A w φ n (k + 1) (s + w n) else 0
/-- the members below n of a set -/
def pc_W (w : Nat → Nat) (z n : Nat) : Nat := pn_sum (fun b => if z.testBit b = true then w b else 0) n
def pc_ok (A : Nat → Bool) (z : Nat) : Nat → Bool
  | 0 => true
  | n + 1 => pc_ok A z n && (!z.testBit n || A n)
theorem pc_W_c {w : Nat → Nat} {z z' : Nat} : ∀ n, (∀ b, b < n → z.testBit b = z'.testBit b) → pc_W w z n = pc_W w z' n := fun n h => pn_sum_c n (fun b hb => by rw [h b hb])
theorem pc_ok_c {A : Nat → Bool} {z z' : Nat} : ∀ n, (∀ b, b < n → z.testBit b = z'.testBit b) → pc_ok A z n = pc_ok A z' n
  | 0, _ => rfl
  | n + 1, h => by rw [pc_ok, pc_ok, pc_ok_c n (fun b hb => h b (by omega)), h n (by omega)]
theorem pc_sum (A : Nat → Bool) (w : Nat → Nat) (φ : Nat → Nat → Nat) : ∀ n k s, pn_sum (fun z => if pc_ok A z n = true then φ (k + pc_W (fun _ => 1) z n) (s + pc_W w z n) else 0) (2 ^ n) = pc_T A w φ n k s
  | 0, k, s => by
    show 0 + (if true = true then φ (k + 0) (s + 0) else 0) = φ k s
    rw [if_pos rfl, Nat.zero_add, Nat.add_zero, Nat.add_zero]
  | n + 1, k, s => by
    rw [show 2 ^ (n + 1) = 2 ^ n + 2 ^ n from by rw [Nat.pow_succ]; omega, pn_sum_split, pc_T]
    congr 1
    · rw [← pc_sum A w φ n k s]
      refine pn_sum_c _ (fun z hz => ?_)
      have hb : z.testBit n = false := Nat.testBit_lt_two_pow hz
      rw [pc_ok, hb, Bool.not_false, Bool.true_or, Bool.and_true]
      have e1 : ∀ w' : Nat → Nat, pc_W w' z (n + 1) = pc_W w' z n := fun w' => by
        unfold pc_W
        rw [pn_sum, hb, if_neg (by decide), Nat.add_zero]
      rw [e1, e1]
    · have hlow : ∀ z, z < 2 ^ n → (∀ b, b < n → (2 ^ n + z).testBit b = z.testBit b) ∧ (2 ^ n + z).testBit n = true := fun z hz => by
        refine ⟨fun b hb => Nat.testBit_two_pow_add_gt hb z, ?_⟩
        rw [Nat.testBit_two_pow_add_eq, Nat.testBit_lt_two_pow hz]; rfl
      by_cases hA : A n = true
      · rw [if_pos hA, ← pc_sum A w φ n (k + 1) (s + w n)]
        refine pn_sum_c _ (fun z hz => ?_)
        obtain ⟨h1, h2⟩ := hlow z hz
        rw [pc_ok, h2, hA, Bool.not_true, Bool.false_or, Bool.and_true, pc_ok_c n h1]
        have e1 : ∀ w' : Nat → Nat, pc_W w' (2 ^ n + z) (n + 1) = pc_W w' z n + w' n := fun w' => by
          rw [← pc_W_c n h1]
          unfold pc_W
          rw [pn_sum, h2, if_pos rfl]
        rw [e1, e1, show k + (pc_W (fun _ => 1) z n + 1) = k + 1 + pc_W (fun _ => 1) z n by omega, show s + (pc_W w z n + w n) = s + w n + pc_W w z n by omega]
      · rw [if_neg hA]
        refine pn_sum_0 _ (fun z hz => ?_)
        obtain ⟨h1, h2⟩ := hlow z hz
        have hA' : A n = false := by simpa using hA
        rw [pc_ok, h2, hA', Bool.not_true, Bool.false_or, Bool.and_false, if_neg (by decide)]
/-- the same sum, told over the places of those who come -/
theorem pc_T_o {c A A' : Nat → Bool} {w w' : Nat → Nat} (φ : Nat → Nat → Nat) (m : Nat → Nat) (h0 : m 0 = 0) (hs : ∀ n, (c n = true → m (n + 1) = m n + 1 ∧ A' (m n) = A n ∧ w' (m n) = w n) ∧ (c n = false → m (n + 1) = m n ∧ A n = false)) : ∀ n k s, pc_T A w φ n k s = pc_T A' w' φ (m n) k s
  | 0, k, s => by rw [h0]; rfl
  | n + 1, k, s => by
    cases hc : c n with
    | true =>
      obtain ⟨h1, h2, h3⟩ := (hs n).1 hc
      rw [h1, pc_T, pc_T, h2, h3, pc_T_o φ m h0 hs n, pc_T_o φ m h0 hs n]
    | false =>
      obtain ⟨h1, h2⟩ := (hs n).2 hc
      rw [h1, pc_T, h2, if_neg (by decide), Nat.add_zero, pc_T_o φ m h0 hs n]
def pc_f : Nat → Nat
  | 0 => 1
  | n + 1 => (n + 1) * pc_f n
def pc_U (N : Nat) : Nat → Nat → Nat
  | 0, k => pc_f k * pc_f (N - k)
  | e + 1, k => pc_U N e k + pc_U N e (k + 1)
theorem pc_U_all : ∀ N, N < 7 → pc_U N N 0 = pc_f (N + 1) := by decide
/-- all sets good: all orders -/
theorem pc_T_U {A : Nat → Bool} {w : Nat → Nat} {φ : Nat → Nat → Nat} (N K S : Nat) (hφ : ∀ k s, k ≤ K → s ≤ S → φ k s = pc_f k * pc_f (N - k)) : ∀ n k s, k + pn_sum (fun b => if A b = true then 1 else 0) n ≤ K → s + pn_sum (fun b => if A b = true then w b else 0) n ≤ S → pc_T A w φ n k s = pc_U N (pn_sum (fun b => if A b = true then 1 else 0) n) k
  | 0, k, s, h1, h2 => hφ k s h1 h2
  | n + 1, k, s, h1, h2 => by
    rw [pn_sum] at h1 h2
    rw [pc_T, pn_sum]
    by_cases hA : A n = true
    · rw [if_pos hA] at h1 h2
      rw [if_pos hA, if_pos hA, pc_T_U N K S hφ n k s (by omega) (by omega), pc_T_U N K S hφ n (k + 1) (s + w n) (by omega) (by omega)]
      rfl
    · rw [if_neg hA] at h1 h2
      rw [if_neg hA, if_neg hA, pc_T_U N K S hφ n k s (by omega) (by omega), Nat.add_zero, Nat.add_zero]
/-- a set of allowed ones is no greater than all of them -/
theorem pc_W_le {A : Nat → Bool} {w : Nat → Nat} {z : Nat} : ∀ n, pc_ok A z n = true → pc_W w z n ≤ pn_sum (fun b => if A b = true then w b else 0) n
  | 0, _ => Nat.le_refl _
  | n + 1, h => by
    rw [pc_ok, Bool.and_eq_true] at h
    have h1 := pc_W_le (w := w) n h.1
    unfold pc_W at h1 ⊢
    rw [pn_sum, pn_sum]
    cases hz : z.testBit n with
    | false => rw [if_neg (by decide)]; omega
    | true =>
      rw [hz, Bool.not_true, Bool.false_or] at h
      rw [if_pos rfl, if_pos h.2]; omega

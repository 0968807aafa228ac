/-! Chance: both sums are one -/
theorem pc_wo {A c : Nat → Bool} {b : Nat} (hA : ∀ i, A i = (c i && !decide (i = b))) (hcb : c b = true) (w : Nat → Nat) : ∀ n, pn_sum (fun i => if A i = true then w i else 0) n + (if b < n then w b else 0) = pn_sum (fun i => if c i = true then w i else 0) n
  | 0 => rfl
  | n + 1 => by
    have ih := pc_wo hA hcb w n
    rw [pn_sum, pn_sum, ← ih, hA]
    by_cases e : n = b
    · rw [e, hcb, decide_eq_true rfl, if_pos (show b < b + 1 by omega), if_neg (show ¬ b < b by omega), if_neg (show ¬ ((true && !true) = true) by decide), if_pos rfl]
    · rw [decide_eq_false e, Bool.not_false, Bool.and_true]
      by_cases q : b < n
      · rw [if_pos (show b < n + 1 by omega), if_pos q]; omega
      · rw [if_neg (show ¬ b < n + 1 by omega), if_neg q]; omega
theorem pc_same {A c : Nat → Bool} {b nB : Nat} (hA : ∀ i, A i = (c i && !decide (i = b))) {o w : Nat → Nat} (ho : ∀ n, n < nB → c n = true → o (pc_m c n) = n) (φ : Nat → Nat → Nat) : pc_T A w φ nB 0 0 = pc_T (fun j => !decide (o j = b)) (fun j => w (o j)) φ (pc_m c nB) 0 0 := by
  refine pc_T_p (c := c) φ (pc_m c) nB rfl (fun n hn => ⟨fun h => ⟨by rw [pc_m_s, if_pos h], ?_, ?_⟩, fun h => ⟨?_, ?_⟩⟩) nB 0 0 (Nat.le_refl _)
  · rw [ho n hn h, hA, h, Bool.true_and]
  · rw [ho n hn h]
  · rw [pc_m_s, h, if_neg (show ¬ (false = true) from Bool.false_ne_true)]; rfl
  · rw [hA, h, Bool.false_and]
theorem pc_all {A c : Nat → Bool} {b nB a : Nat} {O : Int32} (hA : ∀ i, A i = (c i && !decide (i = b))) (hcb : c b = true) (hb : b < nB) (hn : nB < 8) {w : Nat → Nat} (ha : pn_sum (fun i => if c i = true then w i else 0) nB = a) (hO : ∀ s, s ≤ a → ¬ O < nI s) : pc_T A w (pc_p O (w b) (pc_m c nB - 1)) nB 0 0 = pc_f (pc_m c nB) := by
  have h1 := pc_wo hA hcb (fun _ => 1) nB
  have h2 := pc_wo hA hcb w nB
  rw [if_pos hb] at h1 h2
  have h3 : pn_sum (fun i => if c i = true then 1 else 0) nB = pc_m c nB := rfl
  have h4 := pc_m_le c nB
  rw [h3] at h1
  rw [pc_T_U (N := pc_m c nB - 1) (K := pc_m c nB - 1) (S := a - w b) (fun k s hk hs => by
    rw [pc_p, if_pos ⟨hO _ (by omega), hk⟩]) nB 0 0 (by omega) (by omega)]
  rw [show pn_sum (fun i => if A i = true then 1 else 0) nB = pc_m c nB - 1 by omega, pc_U_all _ (by omega), show pc_m c nB - 1 + 1 = pc_m c nB by omega]
theorem pc_T_le {A : Nat → Bool} {w : Nat → Nat} {φ : Nat → Nat → Nat} {B : Nat} (h : ∀ k s, φ k s ≤ B) : ∀ n k s, pc_T A w φ n k s ≤ 2 ^ n * B
  | 0, k, s => by rw [Nat.pow_zero, Nat.one_mul]; exact h k s
  | n + 1, k, s => by
    have h1 := pc_T_le (A := A) (w := w) h n k s
    have h2 := pc_T_le (A := A) (w := w) h n (k + 1) (s + w n)
    rw [pc_T, Nat.pow_succ, Nat.mul_right_comm]
    by_cases q : A n = true
    · rw [if_pos q]; omega
    · rw [if_neg q]; omega
theorem pc_720 : ∀ N, N < 7 → ∀ k, k < 7 → k ≤ N → pc_f k * pc_f (N - k) ≤ 720 := by decide +kernel
theorem pc_p_le {O : Int32} {B N : Nat} (hN : N < 7) (k s : Nat) : pc_p O B N k s ≤ 720 := by
  rw [pc_p]
  by_cases q : ¬ O < nI (s + B) ∧ k ≤ N
  · rw [if_pos q]; exact pc_720 N hN k (by omega) q.2
  · rw [if_neg q]; omega

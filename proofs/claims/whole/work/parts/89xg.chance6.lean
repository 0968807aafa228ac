/-! Chance: both sums are one -/
theorem pc_wo {A c : Nat → Bool} {b : Nat} (hA : ∀ i, A i = (c i && !decide (i = b))) (hcb : c b = true) (w : Nat → Nat) : ∀ n, pn_sum (fun i => if A i = true then w i else 0) n + (if b < n then w b else 0) = pn_sum (fun i => if c i = true then w i else 0) n
  | 0 => rfl
  | n + 1 => by
    have ih := pc_wo hA hcb w n
    rw [pn_sum, pn_sum, ← ih, hA]
    by_cases e : n = b
    · rw [e, hcb, decide_eq_true rfl, if_pos (show b < b + 1 by omega), if_neg (show ¬ b < b by omega), if_neg (show ¬ ((true && !true) = true) by decide), if_pos rfl]
    · rw [decide_eq_false e, Bool.not_false, Bool.and_true]
      by_cases q : b < n
      · rw [if_pos (show b < n + 1 by omega), if_pos q]; omega
      · rw [if_neg (show ¬ b < n + 1 by omega), if_neg q]; omega
theorem pc_same {A c : Nat → Bool} {b nB : Nat} (hA : ∀ i, A i = (c i && !decide (i = b))) {o w : Nat → Nat} (ho : ∀ n, n < nB → c n = true → o (pc_m c n) = n) (φ : Nat → Nat → Nat) : pc_T A w φ nB 0 0 = pc_T (fun j => !decide (o j = b)) (fun j => w (o j)) φ (pc_m c nB) 0 0 := by
  refine pc_T_p (c := c) φ (pc_m c) nB rfl (fun n hn => ⟨fun h => ⟨by rw [pc_m_s, if_pos h], ?_, ?_⟩, fun h => ⟨?_, ?_⟩⟩) nB 0 0 (Nat.le_refl _)
  · rw [ho n hn h, hA, h, Bool.true_and]
  · rw [ho n hn h]
  · rw [pc_m_s, h, if_neg (show ¬ (false = true) from Bool.false_ne_true)]; rfl
  · rw [hA, h, Bool.false_and]
theorem pc_all {A c : Nat → Bool} {b nB a : Nat} {O : Int32} (hA : ∀ i, A i = (c i && !decide (i = b))) (hcb : c b = true) (hb : b < nB) (hn : nB < 8) {w : Nat → Nat} (ha : pn_sum (fun i => if c i = true then w i else 0) nB = a) (hO : ∀ s, s ≤ a → ¬ O < nI s) : pc_T A w (pc_p O (w b) (pc_m c nB - 1)) nB 0 0 = pc_f (pc_m c nB) := by
  have h1 := pc_wo hA hcb (fun _ => 1) nB
  have h2 := pc_wo hA hcb w nB
  rw [if_pos hb] at h1 h2
  have h3 : pn_sum (fun i => if c i = true then 1 else 0) nB = pc_m c nB := rfl
  have h4 := pc_m_le c nB
  rw [h3] at h1
  rw [pc_T_U (N := pc_m c nB - 1) (K := pc_m c nB - 1) (S := a - w b) (fun k s hk hs => by
    rw [pc_p, if_pos ⟨hO _ (by omega), hk⟩]) nB 0 0 (by omega) (by omega)]
  rw [show pn_sum (fun i => if A i = true then 1 else 0) nB = pc_m c nB - 1 by omega, pc_U_all _ (by omega), show pc_m c nB - 1 + 1 = pc_m c nB by omega]

/-! turn: the reference's market after it, and both -/
theorem pv_t2n {d : ya_D} {k : Nat} (h : k < 11 ∨ 311 ≤ k) : (pv_t2 d 100).1 84 k = d.1 84 k := by
  simp only [pv_t2]
  rw [if_pos trivial, if_neg (show ¬ (11 ≤ k ∧ k < 11 + 100) by omega), if_neg (show ¬ (111 ≤ k ∧ k < 111 + 100) by omega), if_neg (show ¬ (211 ≤ k ∧ k < 211 + 100) by omega)]
theorem pm_R_turn {d : ya_D} {M : pm_M} (hW : pm_W M) (h : pm_R d 84 0 M) : pm_R (pv_t2 d 100) 84 0 (pm_tn M) := by
  obtain ⟨h0, h1, h2, h3, h4, h5, h6, h7, h8, h9, h10⟩ := h
  obtain ⟨_, b1, _, b3, b4, b5, _, _, _, w9, _⟩ := hW
  refine ⟨(pv_t2n (by omega)).trans h0, (pv_t2n (by omega)).trans h1, (pv_t2n (by omega)).trans h2, (pv_t2n (by omega)).trans h3, (pv_t2n (by omega)).trans h4, (pv_t2n (by omega)).trans h5, ?_, ?_, ?_, ?_, ?_⟩
  · intro x hx
    replace hx : x < M 0 3 := hx
    exact (pv_t2n (by omega)).trans (h6 x hx)
  · intro x t hx ht
    replace hx : x < M 0 3 := hx
    replace ht : t < M 0 1 := ht
    have q := h7 x t hx ht
    have w := w9 x t hx ht
    simp only [Nat.zero_add] at q ⊢
    refine ⟨?_, ?_, ?_⟩
    · simp only [pv_t2]
      rw [if_pos trivial, if_pos (show 11 ≤ 11 + (20 * x + t) ∧ 11 + (20 * x + t) < 11 + 100 by omega), show 11 + (20 * x + t) + 200 = 211 + (20 * x + t) by omega]
      exact pm_tnp q.2.2 q.1 w.2.2
    · simp only [pv_t2]
      rw [if_pos trivial, if_neg (show ¬ (11 ≤ 111 + (20 * x + t) ∧ 111 + (20 * x + t) < 11 + 100) by omega), if_pos (show 111 ≤ 111 + (20 * x + t) ∧ 111 + (20 * x + t) < 111 + 100 by omega), show 111 + (20 * x + t) - 100 = 11 + (20 * x + t) by omega]
      exact q.1
    · simp only [pv_t2]
      rw [if_pos trivial, if_neg (show ¬ (11 ≤ 211 + (20 * x + t) ∧ 211 + (20 * x + t) < 11 + 100) by omega), if_neg (show ¬ (111 ≤ 211 + (20 * x + t) ∧ 211 + (20 * x + t) < 111 + 100) by omega), if_pos (show 211 ≤ 211 + (20 * x + t) ∧ 211 + (20 * x + t) < 211 + 100 by omega)]
      rfl
  · intro s hs
    replace hs : s < M 0 4 := hs
    exact ⟨(pv_t2n (by omega)).trans (h8 s hs).1, (pv_t2n (by omega)).trans (h8 s hs).2.1, (pv_t2n (by omega)).trans (h8 s hs).2.2⟩
  · intro s e hs he
    replace hs : s < M 0 4 := hs
    replace he : e < M 0 1 := he
    exact (pv_t2n (by omega)).trans (h9 s e hs he)
  · intro b hb
    replace hb : b < M 0 5 := hb
    have q := h10 b hb
    exact ⟨(pv_t2n (by omega)).trans q.1, (pv_t2n (by omega)).trans q.2.1, (pv_t2n (by omega)).trans q.2.2.1, (pv_t2n (by omega)).trans q.2.2.2.1, (pv_t2n (by omega)).trans q.2.2.2.2.1, (pv_t2n (by omega)).trans q.2.2.2.2.2⟩
theorem pm_W_turn {M : pm_M} (h : pm_W M) : pm_W (pm_tn M) := by
  obtain ⟨h0, h1, h2, h3, h4, h5, h6, h7, h8, h9, h10, h11, h12⟩ := h
  refine ⟨h0, h1, h2, h3, h4, h5, h6, h7, h8, fun x t hx ht => ⟨?_, (h9 x t hx ht).1, Nat.zero_le _⟩, h10, h11, h12⟩
  have q := h9 x t hx ht
  show (if M 4 (20 * x + t) = 0 then M 2 (20 * x + t) else M 4 (20 * x + t) - 1) ≤ 99
  by_cases c : M 4 (20 * x + t) = 0
  · rw [if_pos c]; exact q.1
  · rw [if_neg c]; omega

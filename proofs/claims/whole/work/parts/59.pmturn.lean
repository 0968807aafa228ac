/-! turn: the market after it -/
theorem pv_t1n {d : ya_D} {n a k : Nat} (h : a ≠ 27 ∧ a ≠ 28 ∧ a ≠ 29) : (pv_t1 d n).1 a k = d.1 a k := by
  simp only [pv_t1]
  by_cases c : k < n
  · rw [if_pos c, if_neg h.2.1, if_neg h.1, if_neg h.2.2]
  · rw [if_neg c]
def pm_tn (M : pm_M) : pm_M := fun g j => if g = 2 then (if M 4 j = 0 then M 2 j else M 4 j - 1) else if g = 3 then M 2 j else if g = 4 then 0 else M g j
theorem pm_tnp {M : pm_M} {j : Nat} {v p : Int32} (hv : v = pm_m (M 4 j)) (hp : p = nI (M 2 j)) (hb : M 4 j ≤ 100) : (if v = -1 then p else v) = nI (pm_tn M 2 j) := by
  have e : pm_tn M 2 j = if M 4 j = 0 then M 2 j else M 4 j - 1 := rfl
  rw [e, hv, hp]
  by_cases c : M 4 j = 0
  · rw [if_pos c, if_pos ((pm_m_none _ hb).mpr c)]
  · rw [if_neg c, if_neg (fun q => c ((pm_m_none _ hb).mp q))]
    obtain ⟨u, hu⟩ : ∃ u, M 4 j = u + 1 := ⟨M 4 j - 1, by omega⟩
    rw [hu]; rfl
theorem pm_C_turn {d : ya_D} {M : pm_M} (hW : pm_W M) (h : pm_C d 24 M) : pm_C (pv_t1 d (20 * M 0 3)) 24 (pm_tn M) := by
  obtain ⟨h0, h1, h2, h3, h4, h5, h6, h7, h8, h9, h10⟩ := h
  obtain ⟨_, b1, _, b3, _, _, _, _, _, w9, _⟩ := hW
  refine ⟨(pv_t1n (by decide)).trans h0, (pv_t1n (by decide)).trans h1, (pv_t1n (by decide)).trans h2, (pv_t1n (by decide)).trans h3, (pv_t1n (by decide)).trans h4, (pv_t1n (by decide)).trans h5, fun x hx => (pv_t1n (by decide)).trans (h6 x hx), fun x t hx ht => ?_, fun s hs => ⟨(pv_t1n (by decide)).trans (h8 s hs).1, (pv_t1n (by decide)).trans (h8 s hs).2.1, (pv_t1n (by decide)).trans (h8 s hs).2.2⟩, fun s e hs he => (pv_t1n (by decide)).trans (h9 s e hs he), fun b hb => ⟨(pv_t1n (by decide)).trans (h10 b hb).1, (pv_t1n (by decide)).trans (h10 b hb).2.1, (pv_t1n (by decide)).trans (h10 b hb).2.2.1, (pv_t1n (by decide)).trans (h10 b hb).2.2.2.1, (pv_t1n (by decide)).trans (h10 b hb).2.2.2.2.1, (pv_t1n (by decide)).trans (h10 b hb).2.2.2.2.2⟩⟩
  replace hx : x < M 0 3 := hx
  replace ht : t < M 0 1 := ht
  have c : 20 * x + t < 20 * M 0 3 := by omega
  have q := h7 x t hx ht
  have w := w9 x t hx ht
  refine ⟨?_, ?_, ?_⟩
  · exact (if_pos c).trans (pm_tnp q.2.2 q.1 w.2.2)
  · exact (if_pos c).trans q.1
  · exact if_pos c

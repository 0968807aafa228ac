/-! hold: class and reference set the same -/
theorem pm_C_hold {d : ya_D} {M : pm_M} {i v : Nat} (h : pm_C d 24 M) : pm_C (ya_sI d 33 i (nI v)) 24 (pm_up M 7 i v) := by
  obtain ⟨h0, h1, h2, h3, h4, h5, h6, h7, h8, h9, h10⟩ := h
  refine ⟨h0, h1, h2, h3, h4, h5, h6, h7, fun s hs => ⟨(h8 s hs).1, (h8 s hs).2.1, ?_⟩, h9, h10⟩
  by_cases e : s = i
  · rw [e, pm_upe]
    exact pn_sIe
  · rw [pm_upn (fun _ => e), pn_sIn (fun _ => e)]
    exact (h8 s hs).2.2
theorem pm_R_hold {d : ya_D} {M : pm_M} {w o i v : Nat} (hi : i < 5) (hW : pm_W M) (h : pm_R d w o M) : pm_R (ya_sI d w (o + (311 + 3 * i + 1)) (nI v)) w o (pm_up M 7 i v) := by
  obtain ⟨h0, h1, h2, h3, h4, h5, h6, h7, h8, h9, h10⟩ := h
  obtain ⟨_, b1, _, b3, b4, b5, _⟩ := hW
  refine ⟨(pn_sIn (by omega)).trans h0, (pn_sIn (by omega)).trans h1, (pn_sIn (by omega)).trans h2, (pn_sIn (by omega)).trans h3, (pn_sIn (by omega)).trans h4, (pn_sIn (by omega)).trans h5, ?_, ?_, ?_, ?_, ?_⟩
  · intro x hx
    replace hx : x < M 0 3 := hx
    exact (pn_sIn (by omega)).trans (h6 x hx)
  · intro x t hx ht
    replace hx : x < M 0 3 := hx
    replace ht : t < M 0 1 := ht
    have h7 := h7 x t hx ht
    exact ⟨(pn_sIn (by omega)).trans h7.1, (pn_sIn (by omega)).trans h7.2.1, (pn_sIn (by omega)).trans h7.2.2⟩
  · intro s hs
    replace hs : s < M 0 4 := hs
    have h8 := h8 s hs
    refine ⟨(pn_sIn (by omega)).trans h8.1, (pn_sIn (by omega)).trans h8.2.1, ?_⟩
    by_cases e : s = i
    · rw [e, pm_upe]
      exact pn_sIe
    · rw [pm_upn (fun _ => e), pn_sIn (by omega)]
      exact h8.2.2
  · intro s e hs he
    replace hs : s < M 0 4 := hs
    replace he : e < M 0 1 := he
    exact (pn_sIn (by omega)).trans (h9 s e hs he)
  · intro b hb
    replace hb : b < M 0 5 := hb
    have h10 := h10 b hb
    exact ⟨(pn_sIn (by omega)).trans h10.1, (pn_sIn (by omega)).trans h10.2.1, (pn_sIn (by omega)).trans h10.2.2.1, (pn_sIn (by omega)).trans h10.2.2.2.1, (pn_sIn (by omega)).trans h10.2.2.2.2.1, (pn_sIn (by omega)).trans h10.2.2.2.2.2⟩
theorem pm_W_hold {M : pm_M} {i v : Nat} (hv : v ≤ 99) (h : pm_W M) : pm_W (pm_up M 7 i v) := by
  obtain ⟨h0, h1, h2, h3, h4, h5, h6, h7, h8, h9, h10, h11, h12⟩ := h
  refine ⟨h0, h1, h2, h3, h4, h5, h6, h7, h8, h9, fun s hs => ⟨(h10 s hs).1, (h10 s hs).2.1, ?_⟩, h11, h12⟩
  by_cases e : s = i
  · rw [e, pm_upe]
    exact hv
  · rw [pm_upn (fun _ => e)]
    exact (h10 s hs).2.2
/-- hold: both answer alike, and hold the same market afterwards -/
theorem pm_hold {d : ya_D} {M : pm_M} (h : pm_I d M) (v y : Int32) : ∃ r d1 d2 M', f_X11_hold v y d = some (r, d1) ∧ f_X12_hold v y d1 = some (r, d2) ∧ pm_I d2 M' ∧ (∀ g j, g ≠ 7 → M' g j = M g j) ∧ (∀ a k, a ≠ 33 → a ≠ 84 → (a = 0 → k ≠ 9) → d2.1 a k = d.1 a k) ∧ d2.2 = d.2 ∧ ((d2 = d ∧ M' = M) ∨ d2.1 0 9 = 0) := by
  have hb := pm_b h.2.2
  unfold f_X11_hold f_X12_hold ya_j0
  dsimp only
  rw [pm_isSeller1 h, Option.bind_some, pn_w99, pn_in99, Option.bind_some]
  by_cases e : pn_ok v (M 0 4)
  · rw [if_pos e, if_neg pn_10]
    by_cases c : pn_ok y 100
    · obtain ⟨s, hs, hs3, rfl⟩ := pn_ok_ex e
      obtain ⟨u, hu, hu3, rfl⟩ := pn_ok_ex c
      have g1 := h.1.2.2.2.2.2.2.2.2.1 s hs
      have g2 := h.2.1.2.2.2.2.2.2.2.2.1 s hs
      rw [Nat.zero_add, Nat.zero_add, Nat.zero_add] at g2
      rw [if_pos c, if_neg pn_10, pn_rI (by omega) (by omega), Option.bind_some, pn_wI (by omega) (by omega), Option.bind_some]
      refine ⟨_, _, ya_sI (ya_sI (ya_sI d 33 s (nI u)) 0 9 0) 84 (311 + 3 * s + 1) (nI u), pm_up M 7 s u, rfl, ?_, ⟨?_, ?_, ?_⟩, fun g j hg => pm_upn (fun q => absurd q hg), fun a k h1 h2 h3 => (pn_sIn (fun q => absurd q h2)).trans ((pn_sIn h3).trans (pn_sIn (fun q => absurd q h1))), rfl, Or.inr rfl⟩
      · rw [show f_X12_isSeller (nI s) (ya_sI (ya_sI d 33 s (nI u)) 0 9 0) = f_X12_isSeller (nI s) d from rfl, pm_isSeller2 h.2, Option.bind_some, if_pos e, if_neg pn_10, Option.bind_some, if_neg pn_10]
        unfold f_X12_seller3 f_X12_setAsks
        rw [show (311 : Int32) = nI 311 from rfl, show (3 : Int32) = nI 3 from rfl, show (1 : Int32) = nI 1 from rfl, pn_mul, nI_add, nI_add, pn_rI (by omega) (by omega), Option.bind_some, Option.bind_some, pn_wI (by omega) (by omega), Option.bind_some, Option.bind_some, pn_sIn (by omega), pn_sIn (by omega), g2.2.2, show d.1 33 s = nI (M 7 s) from g1.2.2]
      · exact pm_C_c (pm_C_hold (i := s) (v := u) h.1) (fun a k h1 h2 => (pn_sIn (by omega)).trans (pn_sIn (by omega)))
      · have := pm_R_hold (i := s) (v := u) (by omega) h.2.2 (pm_R_c (d' := ya_sI (ya_sI d 33 s (nI u)) 0 9 0) h.2.1 (fun k => rfl))
        rw [Nat.zero_add] at this
        exact this
      · exact pm_W_hold (by omega) h.2.2
    · rw [if_neg c, if_pos rfl]
      refine ⟨_, _, d, M, rfl, ?_, h, fun _ _ _ => rfl, fun _ _ _ _ _ => rfl, rfl, Or.inl ⟨rfl, rfl⟩⟩
      rw [pm_isSeller2 h.2, Option.bind_some, if_pos e, if_neg pn_10, Option.bind_some, if_pos rfl]
  · rw [if_neg e, if_pos rfl]
    refine ⟨_, _, d, M, rfl, ?_, h, fun _ _ _ => rfl, fun _ _ _ _ _ => rfl, rfl, Or.inl ⟨rfl, rfl⟩⟩
    rw [pm_isSeller2 h.2, Option.bind_some, if_neg e, if_pos rfl]

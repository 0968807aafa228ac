/-! mark: class and reference set the same -/
def pm_up (M : pm_M) (f i v : Nat) : pm_M := fun g j => if g = f ∧ j = i then v else M g j
theorem pn_sIn {d : ya_D} {a k : Nat} {v : Int32} {a' k' : Nat} (h : a' = a → k' ≠ k) : (ya_sI d a k v).1 a' k' = d.1 a' k' := if_neg (fun e => h e.1 e.2)
theorem pn_sIe {d : ya_D} {a k : Nat} {v : Int32} : (ya_sI d a k v).1 a k = v := if_pos ⟨rfl, rfl⟩
theorem pm_upn {M : pm_M} {f i v g j : Nat} (h : g = f → j ≠ i) : pm_up M f i v g j = M g j := if_neg (fun e => h e.1 e.2)
theorem pm_upe {M : pm_M} {f i v : Nat} : pm_up M f i v f i = v := if_pos ⟨rfl, rfl⟩
theorem pm_C_mark {d : ya_D} {M : pm_M} {i v : Nat} (h : pm_C d 24 M) : pm_C (ya_sI d 29 i (pm_m v)) 24 (pm_up M 4 i v) := by
  obtain ⟨h0, h1, h2, h3, h4, h5, h6, h7, h8, h9, h10⟩ := h
  refine ⟨h0, h1, h2, h3, h4, h5, h6, fun x t hx ht => ⟨(h7 x t hx ht).1, (h7 x t hx ht).2.1, ?_⟩, h8, h9, h10⟩
  by_cases e : 20 * x + t = i
  · rw [e, pm_upe]
    exact pn_sIe
  · rw [pm_upn (fun _ => e), pn_sIn (fun _ => e)]
    exact (h7 x t hx ht).2.2
theorem pm_R_mark {d : ya_D} {M : pm_M} {w o i v : Nat} (hi : i < 100) (hW : pm_W M) (h : pm_R d w o M) : pm_R (ya_sI d w (o + (211 + i)) (pm_m v)) w o (pm_up M 4 i v) := by
  obtain ⟨h0, h1, h2, h3, h4, h5, h6, h7, h8, h9, h10⟩ := h
  obtain ⟨_, b1, _, b3, b4, b5, _⟩ := hW
  refine ⟨(pn_sIn (by omega)).trans h0, (pn_sIn (by omega)).trans h1, (pn_sIn (by omega)).trans h2, (pn_sIn (by omega)).trans h3, (pn_sIn (by omega)).trans h4, (pn_sIn (by omega)).trans h5, ?_, ?_, ?_, ?_, ?_⟩
  · intro x hx
    replace hx : x < M 0 3 := hx
    exact (pn_sIn (by omega)).trans (h6 x hx)
  · intro x t hx ht
    replace hx : x < M 0 3 := hx
    replace ht : t < M 0 1 := ht
    have h7 := h7 x t hx ht
    refine ⟨(pn_sIn (by omega)).trans h7.1, (pn_sIn (by omega)).trans h7.2.1, ?_⟩
    by_cases e : 20 * x + t = i
    · rw [e, pm_upe]
      exact pn_sIe
    · rw [pm_upn (fun _ => e), pn_sIn (by omega)]
      exact h7.2.2
  · intro s hs
    replace hs : s < M 0 4 := hs
    have h8 := h8 s hs
    exact ⟨(pn_sIn (by omega)).trans h8.1, (pn_sIn (by omega)).trans h8.2.1, (pn_sIn (by omega)).trans h8.2.2⟩
  · intro s e hs he
    replace hs : s < M 0 4 := hs
    replace he : e < M 0 1 := he
    exact (pn_sIn (by omega)).trans (h9 s e hs he)
  · intro b hb
    replace hb : b < M 0 5 := hb
    have h10 := h10 b hb
    exact ⟨(pn_sIn (by omega)).trans h10.1, (pn_sIn (by omega)).trans h10.2.1, (pn_sIn (by omega)).trans h10.2.2.1, (pn_sIn (by omega)).trans h10.2.2.2.1, (pn_sIn (by omega)).trans h10.2.2.2.2.1, (pn_sIn (by omega)).trans h10.2.2.2.2.2⟩
theorem pm_W_mark {M : pm_M} {i v : Nat} (hv : v ≤ 100) (h : pm_W M) : pm_W (pm_up M 4 i v) := by
  obtain ⟨h0, h1, h2, h3, h4, h5, h6, h7, h8, h9, h10, h11, h12⟩ := h
  refine ⟨h0, h1, h2, h3, h4, h5, h6, h7, h8, fun x t hx ht => ⟨(h9 x t hx ht).1, (h9 x t hx ht).2.1, ?_⟩, h10, h11, h12⟩
  by_cases e : 20 * x + t = i
  · rw [e, pm_upe]
    exact hv
  · rw [pm_upn (fun _ => e)]
    exact (h9 x t hx ht).2.2
/-- the class's market where the cells 24 .. 41 are the same -/
theorem pm_C_c {d d' : ya_D} {M : pm_M} (h : pm_C d 24 M) (e : ∀ a k, 24 ≤ a → a < 42 → d'.1 a k = d.1 a k) : pm_C d' 24 M := by
  obtain ⟨h0, h1, h2, h3, h4, h5, h6, h7, h8, h9, h10⟩ := h
  have q : ∀ a, 24 ≤ a → a < 42 → d'.1 a = d.1 a := fun a h1 h2 => funext (fun k => e a k h1 h2)
  unfold pm_C
  rw [q 24 (by decide) (by decide), q (24 + 1) (by decide) (by decide), q (24 + 2) (by decide) (by decide), q (24 + 3) (by decide) (by decide), q (24 + 4) (by decide) (by decide), q (24 + 5) (by decide) (by decide), q (24 + 6) (by decide) (by decide), q (24 + 7) (by decide) (by decide), q (24 + 8) (by decide) (by decide), q (24 + 9) (by decide) (by decide), q (24 + 10) (by decide) (by decide), q (24 + 11) (by decide) (by decide), q (24 + 12) (by decide) (by decide), q (24 + 13) (by decide) (by decide), q (24 + 14) (by decide) (by decide), q (24 + 15) (by decide) (by decide), q (24 + 16) (by decide) (by decide), q (24 + 17) (by decide) (by decide)]
  exact ⟨h0, h1, h2, h3, h4, h5, h6, h7, h8, h9, h10⟩
/-- the reference's market where the cell is the same -/
theorem pm_R_c {d d' : ya_D} {w o : Nat} {M : pm_M} (h : pm_R d w o M) (e : ∀ k, d'.1 w k = d.1 w k) : pm_R d' w o M := by
  have q : d'.1 w = d.1 w := funext e
  unfold pm_R
  rw [q]
  exact h
theorem pm_min {a b : Nat} (ha : a < 2 ^ 31) (hb : b < 2 ^ 31) : ya_min (nI a) (nI b) = nI (min a b) := by
  unfold ya_min
  by_cases c : b < a
  · rw [if_pos (nI_lt c ha), Nat.min_eq_right (by omega)]
  · rw [if_neg (nI_nlt (by omega) hb), Nat.min_eq_left (by omega)]
/-- mark: both answer alike, and hold the same market afterwards; only cells 29 and 84 change -/
theorem pm_mark {d : ya_D} {M : pm_M} (h : pm_I d M) (v w y : Int32) : ∃ r d1 d2 M', f_X11_mark v w y d = some (r, d1) ∧ f_X12_mark v w y d1 = some (r, d2) ∧ pm_I d2 M' ∧ (∀ g j, g ≠ 4 → M' g j = M g j) ∧ (∀ a k, a ≠ 29 → a ≠ 84 → d2.1 a k = d.1 a k) ∧ d2.2 = d.2 := by
  have hb := pm_b h.2.2
  unfold f_X11_mark f_X12_mark ya_j0
  dsimp only
  rw [pm_areSo1 h, Option.bind_some, pn_w99, pn_in99, Option.bind_some]
  by_cases e : pn_ok v (M 0 3) ∧ pn_ok w (M 0 1)
  · rw [if_pos e, if_neg pn_10]
    by_cases c : pn_ok y 100
    · obtain ⟨x, hx, hx3, rfl⟩ := pn_ok_ex e.1
      obtain ⟨t, ht, ht3, rfl⟩ := pn_ok_ex e.2
      obtain ⟨u, hu, hu3, rfl⟩ := pn_ok_ex c
      have p1 := pm_pr h.2.2 hx ht
      have hm : min u (M 2 (20 * x + t) + M 0 2) ≤ 99 := by omega
      rw [if_pos c, if_neg pn_10, pm_cell1, Option.bind_some, pm_p1 h hx ht, Option.bind_some, show d.1 24 2 = nI (M 0 2) from h.1.2.2.1, nI_add, pm_min hu3 (by omega), pn_wI (by omega) (by omega), Option.bind_some, pn_rI (by omega) (by omega), pn_sIe, Option.bind_some]
      refine ⟨_, _, ya_sI (ya_sI d 29 (20 * x + t) (nI (min u (M 2 (20 * x + t) + M 0 2)))) 84 (211 + (20 * x + t)) (nI (min u (M 2 (20 * x + t) + M 0 2))), pm_up M 4 (20 * x + t) (min u (M 2 (20 * x + t) + M 0 2) + 1), rfl, ?_, ⟨?_, ?_, ?_⟩, fun g j hg => pm_upn (fun q => absurd q hg), fun a k h1 h2 => (pn_sIn (fun q => absurd q h2)).trans (pn_sIn (fun q => absurd q h1)), rfl⟩
      · rw [show f_X12_areSo (nI x) (nI t) (ya_sI d 29 (20 * x + t) (nI (min u (M 2 (20 * x + t) + M 0 2)))) = f_X12_areSo (nI x) (nI t) d from rfl, pm_areSo2 h.2, Option.bind_some, if_pos e, if_neg pn_10, Option.bind_some, if_neg pn_10, show f_X12_priceOf (nI x) (nI t) (ya_sI d 29 (20 * x + t) (nI (min u (M 2 (20 * x + t) + M 0 2)))) = f_X12_priceOf (nI x) (nI t) d from rfl, pm_p2 h.2 hx ht, Option.bind_some, show (5 : Int32) = nI 5 from rfl, pn_rI (by omega) (by omega), Option.bind_some, pm_cell2, Option.bind_some, show (211 : Int32) = nI 211 from rfl, nI_add, pn_sIn (by omega), show d.1 84 5 = nI (M 0 2) from h.2.1.2.2.1, nI_add, pm_min hu3 (by omega), pn_wI (by omega) (by omega), Option.bind_some]
      · exact pm_C_c (pm_C_mark (v := min u (M 2 (20 * x + t) + M 0 2) + 1) h.1) (fun a k h1 h2 => pn_sIn (by omega))
      · have := pm_R_mark (i := 20 * x + t) (v := min u (M 2 (20 * x + t) + M 0 2) + 1) (by omega) h.2.2 (pm_R_c (d' := ya_sI d 29 (20 * x + t) (nI (min u (M 2 (20 * x + t) + M 0 2)))) h.2.1 (fun k => rfl))
        rw [Nat.zero_add] at this
        exact this
      · exact pm_W_mark (by omega) h.2.2
    · rw [if_neg c, if_pos rfl]
      refine ⟨_, _, d, M, rfl, ?_, h, fun _ _ _ => rfl, fun _ _ _ _ => rfl, rfl⟩
      rw [pm_areSo2 h.2, Option.bind_some, if_pos e, if_neg pn_10, Option.bind_some, if_pos rfl]
  · rw [if_neg e, if_pos rfl]
    refine ⟨_, _, d, M, rfl, ?_, h, fun _ _ _ => rfl, fun _ _ _ _ => rfl, rfl⟩
    rw [pm_areSo2 h.2, Option.bind_some, if_neg e, if_pos rfl]

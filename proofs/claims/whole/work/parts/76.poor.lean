/-! asks, poor: the answers -/
section
variable {d e : ya_D} {M M' : pm_M}
theorem pz_a1_I {s : Nat} {d' : ya_D} (hI : pm_I d M) (hY : pz_Y d M) (h : pz_a1 s d d') (h0 : d'.1 33 s = d.1 33 s) : pm_I d' M ∧ pz_Y d' M ∧ pz_F d d' := by
  have r33 : d'.1 33 = d.1 33 := by
    funext q
    by_cases c : q = s
    · rw [c]; exact h0
    · exact h.2.1 q c
  have row : ∀ a', (a' < 57 ∨ 72 ≤ a') → d'.1 a' = d.1 a' := by
    intro a' g
    by_cases c : a' = 33
    · rw [c]; exact r33
    · exact h.1 a' g c
  refine ⟨⟨pm_C_c hI.1 (fun a k h1 h2 => congrFun (row a (by omega)) k), pm_R_c hI.2.1 (fun k => congrFun (row 84 (by omega)) k), hI.2.2⟩, pz_Y_c hY (fun a' h1 h2 => row a' (by omega)) (funext fun k => h.2.2 42 k (by omega)) (congrFun (row 0 (by omega)) 9), fun a k q => congrFun (row a (by unfold pz_s at q; omega)) k, fun a k q1 q2 q3 q4 => h.2.2 a k q2⟩
theorem pz_a2_I {k : Nat} {e' : ya_D} (hI : pm_I e M) (hY : pz_Y e M) (h : pz_a2 k e e') (h0 : e'.1 84 k = e.1 84 k) : pm_I e' M ∧ pz_Y e' M ∧ pz_F e e' := by
  have r84 : e'.1 84 = e.1 84 := by
    funext q
    by_cases c : q = k
    · rw [c]; exact h0
    · exact h.2.1 q c
  have row : ∀ a', a' ≠ 83 → (a' < 90 ∨ 101 < a') → e'.1 a' = e.1 a' := by
    intro a' g g2
    by_cases c : a' = 84
    · rw [c]; exact r84
    · exact h.1 a' g c g2
  refine ⟨⟨pm_C_c hI.1 (fun a k h1 h2 => congrFun (row a (by omega) (by omega)) k), pm_R_c hI.2.1 (fun k => congrFun r84 k), hI.2.2⟩, pz_Y_c hY (fun a' h1 h2 => row a' (by omega) (by omega)) (funext fun k => h.2.2.2 42 k (by omega)) (congrFun (row 0 (by omega) (by omega)) 9), fun a q hq => ?_, fun a q q1 q2 q3 q4 => h.2.2.2 a q q3⟩
  unfold pz_s at hq
  by_cases c : a = 83
  · subst c
    exact h.2.2.1 q (by omega)
  · exact congrFun (row a c (by omega)) q
theorem pz_asks (hI : pm_I d M) (hY : pz_Y d M) (v : Int32) : pz_op d M (f_X11_asks v) (f_X12_asks v) := by
  have hb := pm_b hI.2.2
  by_cases e1 : pn_ok v (M 0 4)
  · obtain ⟨s, hs, hs3, rfl⟩ := pn_ok_ex e1
    obtain ⟨r0, d1, -, A1, A2, -, -, A3, -⟩ := pz_asks0 hI hI.2 hs
    obtain ⟨B1, B2, B3⟩ := pz_a1_I hI hY A1 A2
    obtain ⟨r, d1', d2, -, -, C1, C2, C3, C4⟩ := pz_asks0 hI B1.2 hs
    rw [A3] at C3
    obtain ⟨rfl, rfl⟩ := Prod.mk.inj (Option.some.inj C3)
    obtain ⟨D1, D2, D3⟩ := pz_a2_I B1 B2 C1 C2
    exact ⟨r0, d1, d2, M, A3, C4, D1, D2, pz_F_t B3 D3⟩
  · refine pz_no hI hY (r := -2) ?_ ?_
    · unfold f_X11_asks
      rw [pm_isSeller1 hI, Option.bind_some, if_neg e1, if_pos rfl]
    · unfold f_X12_asks
      rw [pm_isSeller2 hI.2, Option.bind_some, if_neg e1, if_pos rfl]
/-! poor -/
theorem pn_sum_iv {A B w : Nat} : ∀ n, pn_sum (fun t => if A ≤ t ∧ t ≤ B then w else 0) n = w * (min n (B + 1) - A)
  | 0 => by simp [pn_sum]
  | n + 1 => by
    rw [pn_sum, pn_sum_iv n]
    by_cases c : A ≤ n ∧ n ≤ B
    · rw [if_pos c, show min (n + 1) (B + 1) - A = (min n (B + 1) - A) + 1 by omega, Nat.mul_succ]
    · rw [if_neg c, show min (n + 1) (B + 1) - A = min n (B + 1) - A by omega]; omega
theorem pm_max {a b : Nat} (ha : a < 2 ^ 31) (hb : b < 2 ^ 31) : ya_max (nI a) (nI b) = nI (max a b) := by
  unfold ya_max
  by_cases c : a < b
  · rw [if_pos (nI_lt c hb), Nat.max_eq_right (by omega)]
  · rw [if_neg (nI_nlt (by omega) ha), Nat.max_eq_left (by omega)]
theorem pz_dearest (hI : pm_I d M) {b : Nat} (hb : b < M 0 5) : ∃ D, D ≤ 99 ∧ f_X11_dearestOf (nI b) d = some (nI D) ∧ (∀ t, M 12 b ≤ t → t ≤ M 13 b → M 2 (20 * M 9 b + t) ≤ D) ∧ ∃ t, M 12 b ≤ t ∧ t ≤ M 13 b ∧ M 2 (20 * M 9 b + t) = D := by
  obtain ⟨⟨b0, b1, b2, b3, b4, b5⟩, -, w2, -, -, w5⟩ := pk_w hI.2.2
  have hB := w5 b hb
  obtain ⟨c9, c10, c11, c12, c13, c14⟩ := (pk_c hI.1).2.2.2.2.2.2.2.2.2.2 b hb
  unfold f_X11_dearestOf
  rw [pn_rI (by omega) (by omega), pb_s, pn_rI (by omega) (by omega), pb_s, c9, c12]
  have key := pq_lp (G := fun fu i (m : Nat) => f_X11_dearestOf_L29 (nI b) (nI (M 9 b)) d fu (nI m) (nI i)) (E := some) (n := M 13 b + 1) (I := fun i m => m ≤ 99 ∧ M 12 b ≤ i ∧ (∀ t, M 12 b ≤ t → t < i → M 2 (20 * M 9 b + t) ≤ m) ∧ ((i = M 12 b ∧ m = 0) ∨ ∃ t, M 12 b ≤ t ∧ t < i ∧ M 2 (20 * M 9 b + t) = m)) (Q := fun r => ∃ D, D ≤ 99 ∧ r = nI D ∧ (∀ t, M 12 b ≤ t → t ≤ M 13 b → M 2 (20 * M 9 b + t) ≤ D) ∧ ∃ t, M 12 b ≤ t ∧ t ≤ M 13 b ∧ M 2 (20 * M 9 b + t) = D)
    (fun fu m hI2 => ?_) (fun fu i m hi hI2 => ?_) ya_F (M 12 b) 0 (by omega) (by unfold ya_F; omega) ⟨by omega, by omega, fun t h1 h2 => by omega, Or.inl ⟨rfl, rfl⟩⟩
  · obtain ⟨r, ⟨D, h1, h2, h3, h4⟩, h5⟩ := key
    refine ⟨D, h1, ?_, h3, h4⟩
    rw [← h2, pl_0]; exact h5
  · obtain ⟨q1, q2, q3, q4⟩ := hI2
    refine ⟨nI m, ⟨m, q1, rfl, fun t h1 h2 => q3 t h1 (by omega), ?_⟩, ?_⟩
    · rcases q4 with q | ⟨t, h1, h2, h3⟩
      · omega
      · exact ⟨t, h1, by omega, h3⟩
    · show f_X11_dearestOf_L29 _ _ _ (fu + 1) _ _ = _
      rw [f_X11_dearestOf_L29, pn_rI (by omega) (by omega), pb_s, c13, if_pos (nI_lt (by omega) (by omega))]
  · obtain ⟨q1, q2, q3, q4⟩ := hI2
    right
    have hp := w2 (M 9 b) i hB.1 (by omega)
    have hp2 := ((pk_c hI.1).2.2.2.2.2.2.2.1 (M 9 b) i hB.1 (by omega)).1
    refine ⟨max m (M 2 (20 * M 9 b + i)), ⟨by omega, by omega, fun t h1 h2 => ?_, Or.inr ?_⟩, ?_⟩
    · by_cases c : t = i
      · rw [c]; omega
      · have := q3 t h1 (by omega); omega
    · by_cases c : m ≤ M 2 (20 * M 9 b + i)
      · exact ⟨i, q2, by omega, by omega⟩
      · rcases q4 with q | ⟨t, h1, h2, h3⟩
        · omega
        · exact ⟨t, h1, by omega, by omega⟩
    · show f_X11_dearestOf_L29 _ _ _ (fu + 1) _ _ = f_X11_dearestOf_L29 _ _ _ fu _ _
      rw [f_X11_dearestOf_L29, pn_rI (by omega) (by omega), pb_s, c13, if_neg (nI_nlt (by omega) (by omega)), pm_cell1, pb_s, pn_rI (by omega) (by omega), pb_s, hp2, pm_max (by omega) (by omega), nI_1]
theorem pm_C_pays {d : ya_D} {M : pm_M} {i v : Nat} (h : pm_C d 24 M) : pm_C (ya_sI d 38 i (nI v)) 24 (pm_up M 11 i v) := by
  obtain ⟨h0, h1, h2, h3, h4, h5, h6, h7, h8, h9, h10⟩ := h
  refine ⟨h0, h1, h2, h3, h4, h5, h6, h7, h8, h9, fun s hs => ⟨(h10 s hs).1, (h10 s hs).2.1, ?_, (h10 s hs).2.2.2⟩⟩
  by_cases e : s = i
  · rw [e, pm_upe]
    exact pn_sIe
  · rw [pm_upn (fun _ => e), pn_sIn (fun _ => e)]
    exact (h10 s hs).2.2.1
theorem pm_R_pays {d : ya_D} {M : pm_M} {w o i v : Nat} (hi : i < 7) (hW : pm_W M) (h : pm_R d w o M) : pm_R (ya_sI d w (o + (426 + 6 * i + 2)) (nI v)) w o (pm_up M 11 i v) := by
  obtain ⟨h0, h1, h2, h3, h4, h5, h6, h7, h8, h9, h10⟩ := h
  obtain ⟨_, b1, _, b3, b4, b5, _⟩ := hW
  refine ⟨(pn_sIn (by omega)).trans h0, (pn_sIn (by omega)).trans h1, (pn_sIn (by omega)).trans h2, (pn_sIn (by omega)).trans h3, (pn_sIn (by omega)).trans h4, (pn_sIn (by omega)).trans h5, ?_, ?_, ?_, ?_, ?_⟩
  · intro x hx
    replace hx : x < M 0 3 := hx
    exact (pn_sIn (by omega)).trans (h6 x hx)
  · intro x t hx ht
    replace hx : x < M 0 3 := hx
    replace ht : t < M 0 1 := ht
    have h7 := h7 x t hx ht
    exact ⟨(pn_sIn (by omega)).trans h7.1, (pn_sIn (by omega)).trans h7.2.1, (pn_sIn (by omega)).trans h7.2.2⟩
  · intro s hs
    replace hs : s < M 0 4 := hs
    have h8 := h8 s hs
    exact ⟨(pn_sIn (by omega)).trans h8.1, (pn_sIn (by omega)).trans h8.2.1, (pn_sIn (by omega)).trans h8.2.2⟩
  · intro s e hs he
    replace hs : s < M 0 4 := hs
    replace he : e < M 0 1 := he
    exact (pn_sIn (by omega)).trans (h9 s e hs he)
  · intro b hb
    replace hb : b < M 0 5 := hb
    have h10 := h10 b hb
    refine ⟨(pn_sIn (by omega)).trans h10.1, (pn_sIn (by omega)).trans h10.2.1, ?_, (pn_sIn (by omega)).trans h10.2.2.2.1, (pn_sIn (by omega)).trans h10.2.2.2.2.1, (pn_sIn (by omega)).trans h10.2.2.2.2.2⟩
    by_cases e : b = i
    · rw [e, pm_upe]
      exact pn_sIe
    · rw [pm_upn (fun _ => e), pn_sIn (by omega)]
      exact h10.2.2.1
theorem pm_W_pays {M : pm_M} {i v : Nat} (hv : v ≤ 99) (h : pm_W M) : pm_W (pm_up M 11 i v) := by
  obtain ⟨h0, h1, h2, h3, h4, h5, h6, h7, h8, h9, h10, h11, h12⟩ := h
  refine ⟨h0, h1, h2, h3, h4, h5, h6, h7, h8, h9, h10, h11, fun s hs => ⟨(h12 s hs).1, (h12 s hs).2.1, (h12 s hs).2.2.1, ?_, (h12 s hs).2.2.2.2⟩⟩
  by_cases e : s = i
  · rw [e, pm_upe]
    exact hv
  · rw [pm_upn (fun _ => e)]
    exact (h12 s hs).2.2.2.1
theorem pv_sim_pays {b x y : Nat} (h : ∀ t, M 12 b ≤ t → t ≤ M 13 b → (M 2 (20 * M 9 b + t) ≤ x ↔ M 2 (20 * M 9 b + t) ≤ y)) : pv_sim (pm_up M 11 b x) (pm_up M 11 b y) := by
  refine ⟨fun g j _ _ c => ?_, fun _ _ _ _ => Iff.rfl, fun b' t hb h1 h2 => ?_⟩
  · rw [pm_upn (fun q => absurd q c), pm_upn (fun q => absurd q c)]
  · show M 2 (20 * M 9 b' + t) ≤ pm_up M 11 b y 11 b' ↔ M 2 (20 * M 9 b' + t) ≤ pm_up M 11 b x 11 b'
    by_cases c : b' = b
    · subst c
      rw [pm_upe, pm_upe]; exact (h t h1 h2).symm
    · rw [pm_upn (fun _ => c), pm_upn (fun _ => c)]
/-- what the reference's runs give a buyer who pays n -/
def pz_L (M : pm_M) (b n : Nat) (z : Nat) : Prop := ∀ (e : ya_D) (M' : pm_M), ys e (pm_up M 11 b n) M' → ∃ e', f_X12_runs (lN 1) e = some e' ∧ yr_f2 e e' ∧ e'.1 99 b = nI z
theorem pz_L_run {b n : Nat} {d' : ya_D} (hb : b < M 0 5) (hC : pm_C d 24 (pm_up M 11 b n)) (hW : pm_W (pm_up M 11 b n)) (hq : ys d (pm_up M 11 b n) (pm_up M 11 b n) ∨ True) (he0 : ∃ e, ys e (pm_up M 11 b n) (pm_up M 11 b n)) : ∃ z d', f_X10_run 57 24 (nI 1) d = some d' ∧ yr_f1 57 d d' ∧ d'.1 70 b = nI z ∧ pz_L M b n z ∧ z ≤ pn_sum (fun t => if pm_co (pm_up M 11 b n) (M 9 b) t (M 2 (20 * M 9 b + t)) b then M 10 b else 0) (M 0 1) := by
  obtain ⟨e0, he0⟩ := he0
  obtain ⟨d1, e1, ⟨l, g, p, A1⟩, A2, A3, A4, A5⟩ := yr_run (a := 57) (S := 1) hC he0 (by omega) (by omega)
  have hp : d1.1 70 b = nI (p b) := (A1.2.2.2.2.2.1.2.1 b hb).1
  refine ⟨p b, d1, A4, A2, hp, ?_, A1.2.2.2.2.2.2.2.2 b hb⟩
  intro e M' he
  obtain ⟨d2, e2, ⟨l2, g2, p2, B1⟩, B2, B3, B4, B5⟩ := yr_run (a := 57) (S := 1) hC he (by omega) (by omega)
  rw [A4] at B4
  cases B4
  refine ⟨e2, B5, B3, ?_⟩
  rw [(B1.2.2.2.2.2.1.2.1 b hb).2, ← (B1.2.2.2.2.2.1.2.1 b hb).1]
  exact hp
end

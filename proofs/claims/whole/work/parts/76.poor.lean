/-! asks, poor: the answers -/
section
variable {d e : ya_D} {M M' : pm_M}
theorem pz_a1_I {s : Nat} {d' : ya_D} (hI : pm_I d M) (hY : pz_Y d M) (h : pz_a1 s d d') (h0 : d'.1 33 s = d.1 33 s) : pm_I d' M ∧ pz_Y d' M ∧ pz_F d d' := by
  have r33 : d'.1 33 = d.1 33 := by
    funext q
    by_cases c : q = s
    · rw [c]; exact h0
    · exact h.2.1 q c
  have row : ∀ a', (a' < 57 ∨ 72 ≤ a') → d'.1 a' = d.1 a' := by
    intro a' g
    by_cases c : a' = 33
    · rw [c]; exact r33
    · exact h.1 a' g c
  refine ⟨⟨pm_C_c hI.1 (fun a k h1 h2 => congrFun (row a (by omega)) k), pm_R_c hI.2.1 (fun k => congrFun (row 84 (by omega)) k), hI.2.2⟩, pz_Y_c hY (fun a' h1 h2 => row a' (by omega)) (funext fun k => h.2.2 42 k (by omega)) (congrFun (row 0 (by omega)) 9), fun a k q => congrFun (row a (by unfold pz_s at q; omega)) k, fun a k q1 q2 q3 q4 => h.2.2 a k q2⟩
theorem pz_a2_I {k : Nat} {e' : ya_D} (hI : pm_I e M) (hY : pz_Y e M) (h : pz_a2 k e e') (h0 : e'.1 84 k = e.1 84 k) : pm_I e' M ∧ pz_Y e' M ∧ pz_F e e' := by
  have r84 : e'.1 84 = e.1 84 := by
    funext q
    by_cases c : q = k
    · rw [c]; exact h0
    · exact h.2.1 q c
  have row : ∀ a', a' ≠ 83 → (a' < 90 ∨ 101 < a') → e'.1 a' = e.1 a' := by
    intro a' g g2
    by_cases c : a' = 84
    · rw [c]; exact r84
    · exact h.1 a' g c g2
  refine ⟨⟨pm_C_c hI.1 (fun a k h1 h2 => congrFun (row a (by omega) (by omega)) k), pm_R_c hI.2.1 (fun k => congrFun r84 k), hI.2.2⟩, pz_Y_c hY (fun a' h1 h2 => row a' (by omega) (by omega)) (funext fun k => h.2.2.2 42 k (by omega)) (congrFun (row 0 (by omega) (by omega)) 9), fun a q hq => ?_, fun a q q1 q2 q3 q4 => h.2.2.2 a q q3⟩
  unfold pz_s at hq
  by_cases c : a = 83
  · subst c
    exact h.2.2.1 q (by omega)
  · exact congrFun (row a c (by omega)) q
theorem pz_asks (hI : pm_I d M) (hY : pz_Y d M) (v : Int32) : pz_op d M (f_X11_asks v) (f_X12_asks v) := by
  have hb := pm_b hI.2.2
  by_cases e1 : pn_ok v (M 0 4)
  · obtain ⟨s, hs, hs3, rfl⟩ := pn_ok_ex e1
    obtain ⟨r0, d1, -, A1, A2, -, -, A3, -⟩ := pz_asks0 hI hI.2 hs
    obtain ⟨B1, B2, B3⟩ := pz_a1_I hI hY A1 A2
    obtain ⟨r, d1', d2, -, -, C1, C2, C3, C4⟩ := pz_asks0 hI B1.2 hs
    rw [A3] at C3
    obtain ⟨rfl, rfl⟩ := Prod.mk.inj (Option.some.inj C3)
    obtain ⟨D1, D2, D3⟩ := pz_a2_I B1 B2 C1 C2
    exact ⟨r0, d1, d2, M, A3, C4, D1, D2, pz_F_t B3 D3⟩
  · refine pz_no hI hY (r := -2) ?_ ?_
    · unfold f_X11_asks
      rw [pm_isSeller1 hI, Option.bind_some, if_neg e1, if_pos rfl]
    · unfold f_X12_asks
      rw [pm_isSeller2 hI.2, Option.bind_some, if_neg e1, if_pos rfl]
/-! poor -/
theorem pn_sum_iv {A B w : Nat} : ∀ n, pn_sum (fun t => if A ≤ t ∧ t ≤ B then w else 0) n = w * (min n (B + 1) - A)
  | 0 => by simp [pn_sum]
  | n + 1 => by
    rw [pn_sum, pn_sum_iv n]
    by_cases c : A ≤ n ∧ n ≤ B
    · rw [if_pos c, show min (n + 1) (B + 1) - A = (min n (B + 1) - A) + 1 by omega, Nat.mul_succ]
    · rw [if_neg c, show min (n + 1) (B + 1) - A = min n (B + 1) - A by omega]; omega
theorem pm_max {a b : Nat} (ha : a < 2 ^ 31) (hb : b < 2 ^ 31) : ya_max (nI a) (nI b) = nI (max a b) := by
  unfold ya_max
  by_cases c : a < b
  · rw [if_pos (nI_lt c hb), Nat.max_eq_right (by omega)]
  · rw [if_neg (nI_nlt (by omega) ha), Nat.max_eq_left (by omega)]
theorem pz_dearest (hI : pm_I d M) {b : Nat} (hb : b < M 0 5) : ∃ D, D ≤ 99 ∧ f_X11_dearestOf (nI b) d = some (nI D) ∧ (∀ t, M 12 b ≤ t → t ≤ M 13 b → M 2 (20 * M 9 b + t) ≤ D) ∧ ∃ t, M 12 b ≤ t ∧ t ≤ M 13 b ∧ M 2 (20 * M 9 b + t) = D := by
  obtain ⟨⟨b0, b1, b2, b3, b4, b5⟩, -, w2, -, -, w5⟩ := pk_w hI.2.2
  have hB := w5 b hb
  obtain ⟨c9, c10, c11, c12, c13, c14⟩ := (pk_c hI.1).2.2.2.2.2.2.2.2.2.2 b hb
  unfold f_X11_dearestOf
  rw [pn_rI (by omega) (by omega), pb_s, pn_rI (by omega) (by omega), pb_s, c9, c12]
  have key := pq_lp (G := fun fu i (m : Nat) => f_X11_dearestOf_L29 (nI b) (nI (M 9 b)) d fu (nI m) (nI i)) (E := some) (n := M 13 b + 1) (I := fun i m => m ≤ 99 ∧ M 12 b ≤ i ∧ (∀ t, M 12 b ≤ t → t < i → M 2 (20 * M 9 b + t) ≤ m) ∧ ((i = M 12 b ∧ m = 0) ∨ ∃ t, M 12 b ≤ t ∧ t < i ∧ M 2 (20 * M 9 b + t) = m)) (Q := fun r => ∃ D, D ≤ 99 ∧ r = nI D ∧ (∀ t, M 12 b ≤ t → t ≤ M 13 b → M 2 (20 * M 9 b + t) ≤ D) ∧ ∃ t, M 12 b ≤ t ∧ t ≤ M 13 b ∧ M 2 (20 * M 9 b + t) = D)
    (fun fu m hI2 => ?_) (fun fu i m hi hI2 => ?_) ya_F (M 12 b) 0 (by omega) (by unfold ya_F; omega) ⟨by omega, by omega, fun t h1 h2 => by omega, Or.inl ⟨rfl, rfl⟩⟩
  · obtain ⟨r, ⟨D, h1, h2, h3, h4⟩, h5⟩ := key
    refine ⟨D, h1, ?_, h3, h4⟩
    rw [← h2, pl_0]; exact h5
  · obtain ⟨q1, q2, q3, q4⟩ := hI2
    refine ⟨nI m, ⟨m, q1, rfl, fun t h1 h2 => q3 t h1 (by omega), ?_⟩, ?_⟩
    · rcases q4 with q | ⟨t, h1, h2, h3⟩
      · omega
      · exact ⟨t, h1, by omega, h3⟩
    · show f_X11_dearestOf_L29 _ _ _ (fu + 1) _ _ = _
      rw [f_X11_dearestOf_L29, pn_rI (by omega) (by omega), pb_s, c13, if_pos (nI_lt (by omega) (by omega))]
  · obtain ⟨q1, q2, q3, q4⟩ := hI2
    right
    have hp := w2 (M 9 b) i hB.1 (by omega)
    have hp2 := ((pk_c hI.1).2.2.2.2.2.2.2.1 (M 9 b) i hB.1 (by omega)).1
    refine ⟨max m (M 2 (20 * M 9 b + i)), ⟨by omega, by omega, fun t h1 h2 => ?_, Or.inr ?_⟩, ?_⟩
    · by_cases c : t = i
      · rw [c]; omega
      · have := q3 t h1 (by omega); omega
    · by_cases c : m ≤ M 2 (20 * M 9 b + i)
      · exact ⟨i, q2, by omega, by omega⟩
      · rcases q4 with q | ⟨t, h1, h2, h3⟩
        · omega
        · exact ⟨t, h1, by omega, by omega⟩
    · show f_X11_dearestOf_L29 _ _ _ (fu + 1) _ _ = f_X11_dearestOf_L29 _ _ _ fu _ _
      rw [f_X11_dearestOf_L29, pn_rI (by omega) (by omega), pb_s, c13, if_neg (nI_nlt (by omega) (by omega)), pm_cell1, pb_s, pn_rI (by omega) (by omega), pb_s, hp2, pm_max (by omega) (by omega), nI_1]
theorem pm_C_pays {d : ya_D} {M : pm_M} {i v : Nat} (h : pm_C d 24 M) : pm_C (ya_sI d 38 i (nI v)) 24 (pm_up M 11 i v) := by
  obtain ⟨h0, h1, h2, h3, h4, h5, h6, h7, h8, h9, h10⟩ := h
  refine ⟨h0, h1, h2, h3, h4, h5, h6, h7, h8, h9, fun s hs => ⟨(h10 s hs).1, (h10 s hs).2.1, ?_, (h10 s hs).2.2.2⟩⟩
  by_cases e : s = i
  · rw [e, pm_upe]
    exact pn_sIe
  · rw [pm_upn (fun _ => e), pn_sIn (fun _ => e)]
    exact (h10 s hs).2.2.1
theorem pm_R_pays {d : ya_D} {M : pm_M} {w o i v : Nat} (hi : i < 7) (hW : pm_W M) (h : pm_R d w o M) : pm_R (ya_sI d w (o + (426 + 6 * i + 2)) (nI v)) w o (pm_up M 11 i v) := by
  obtain ⟨h0, h1, h2, h3, h4, h5, h6, h7, h8, h9, h10⟩ := h
  obtain ⟨_, b1, _, b3, b4, b5, _⟩ := hW
  refine ⟨(pn_sIn (by omega)).trans h0, (pn_sIn (by omega)).trans h1, (pn_sIn (by omega)).trans h2, (pn_sIn (by omega)).trans h3, (pn_sIn (by omega)).trans h4, (pn_sIn (by omega)).trans h5, ?_, ?_, ?_, ?_, ?_⟩
  · intro x hx
    replace hx : x < M 0 3 := hx
    exact (pn_sIn (by omega)).trans (h6 x hx)
  · intro x t hx ht
    replace hx : x < M 0 3 := hx
    replace ht : t < M 0 1 := ht
    have h7 := h7 x t hx ht
    exact ⟨(pn_sIn (by omega)).trans h7.1, (pn_sIn (by omega)).trans h7.2.1, (pn_sIn (by omega)).trans h7.2.2⟩
  · intro s hs
    replace hs : s < M 0 4 := hs
    have h8 := h8 s hs
    exact ⟨(pn_sIn (by omega)).trans h8.1, (pn_sIn (by omega)).trans h8.2.1, (pn_sIn (by omega)).trans h8.2.2⟩
  · intro s e hs he
    replace hs : s < M 0 4 := hs
    replace he : e < M 0 1 := he
    exact (pn_sIn (by omega)).trans (h9 s e hs he)
  · intro b hb
    replace hb : b < M 0 5 := hb
    have h10 := h10 b hb
    refine ⟨(pn_sIn (by omega)).trans h10.1, (pn_sIn (by omega)).trans h10.2.1, ?_, (pn_sIn (by omega)).trans h10.2.2.2.1, (pn_sIn (by omega)).trans h10.2.2.2.2.1, (pn_sIn (by omega)).trans h10.2.2.2.2.2⟩
    by_cases e : b = i
    · rw [e, pm_upe]
      exact pn_sIe
    · rw [pm_upn (fun _ => e), pn_sIn (by omega)]
      exact h10.2.2.1
theorem pm_W_pays {M : pm_M} {i v : Nat} (hv : v ≤ 99) (h : pm_W M) : pm_W (pm_up M 11 i v) := by
  obtain ⟨h0, h1, h2, h3, h4, h5, h6, h7, h8, h9, h10, h11, h12⟩ := h
  refine ⟨h0, h1, h2, h3, h4, h5, h6, h7, h8, h9, h10, h11, fun s hs => ⟨(h12 s hs).1, (h12 s hs).2.1, (h12 s hs).2.2.1, ?_, (h12 s hs).2.2.2.2⟩⟩
  by_cases e : s = i
  · rw [e, pm_upe]
    exact hv
  · rw [pm_upn (fun _ => e)]
    exact (h12 s hs).2.2.2.1
theorem pv_sim_pays {b x y : Nat} (h : ∀ t, M 12 b ≤ t → t ≤ M 13 b → (M 2 (20 * M 9 b + t) ≤ x ↔ M 2 (20 * M 9 b + t) ≤ y)) : pv_sim (pm_up M 11 b x) (pm_up M 11 b y) := by
  refine ⟨fun g j _ _ c => ?_, fun _ _ _ _ => Iff.rfl, fun b' t hb h1 h2 => ?_⟩
  · rw [pm_upn (fun q => absurd q c), pm_upn (fun q => absurd q c)]
  · show M 2 (20 * M 9 b' + t) ≤ pm_up M 11 b y 11 b' ↔ M 2 (20 * M 9 b' + t) ≤ pm_up M 11 b x 11 b'
    by_cases c : b' = b
    · subst c
      rw [pm_upe, pm_upe]; exact (h t h1 h2).symm
    · rw [pm_upn (fun _ => c), pm_upn (fun _ => c)]
/-- what the reference's runs give a buyer who pays n -/
def pz_L (M : pm_M) (b n : Nat) (z : Nat) : Prop := ∀ (e : ya_D) (M' : pm_M), ys e (pm_up M 11 b n) M' → ∃ e', f_X12_runs (lN 1) e = some e' ∧ yr_f2 e e' ∧ e'.1 99 b = nI z
theorem pz_L_run {b n : Nat} (hb : b < M 0 5) (hC : pm_C d 24 (pm_up M 11 b n)) (he0 : ∃ e, ys e (pm_up M 11 b n) (pm_up M 11 b n)) : ∃ z d', f_X10_run 57 24 (nI 1) d = some d' ∧ yr_f1 57 d d' ∧ d'.1 70 b = nI z ∧ pz_L M b n z ∧ z ≤ pn_sum (fun t => if pm_co (pm_up M 11 b n) (M 9 b) t (M 2 (20 * M 9 b + t)) b then M 10 b else 0) (M 0 1) := by
  obtain ⟨e0, he0⟩ := he0
  obtain ⟨d1, e1, ⟨l, g, p, A1⟩, A2, A3, A4, A5⟩ := yr_run (a := 57) (S := 1) hC he0 (by omega) (by omega)
  have hp : d1.1 70 b = nI (p b) := (A1.2.2.2.2.2.1.2.1 b hb).1
  refine ⟨p b, d1, A4, A2, hp, ?_, A1.2.2.2.2.2.2.2.2 b hb⟩
  intro e M' he
  obtain ⟨d2, e2, ⟨l2, g2, p2, B1⟩, B2, B3, B4, B5⟩ := yr_run (a := 57) (S := 1) hC he (by omega) (by omega)
  rw [A4] at B4
  cases B4
  refine ⟨e2, B5, B3, ?_⟩
  rw [(B1.2.2.2.2.2.1.2.1 b hb).2, ← (B1.2.2.2.2.2.1.2.1 b hb).1]
  exact hp
theorem pz_a2_R38 {b v : Nat} {e' : ya_D} (hJ : pm_J e M) (hb : b < 7) (h : pz_a2 (426 + 6 * b + 2) e e') : pm_R (ya_sI e' 84 (426 + 6 * b + 2) (nI v)) 84 0 (pm_up M 11 b v) := by
  have := pm_R_pays (i := b) (v := v) hb hJ.2 hJ.1
  rw [Nat.zero_add] at this
  refine pm_R_c this (fun q => ?_)
  by_cases c : q = 426 + 6 * b + 2
  · rw [c, pn_e ⟨rfl, rfl⟩, pn_e ⟨rfl, rfl⟩]
  · rw [pn_o (Or.inr c), pn_o (Or.inr c)]; exact h.2.1 q c
/-- the reference's search -/
theorem pz_poor_ref (hI : pm_I d M) (hJ : pm_J e M) {b D z : Nat} (hb : b < M 0 5) (hD : D ≤ 99) (h1 : ∀ t, M 12 b ≤ t → t ≤ M 13 b → M 2 (20 * M 9 b + t) ≤ D) (h2 : ∃ t, M 12 b ≤ t ∧ t ≤ M 13 b ∧ M 2 (20 * M 9 b + t) = D) (hL : pz_L M b D z) (hzb : z < 2 ^ 31) : ∃ e', pz_a2 (426 + 6 * b + 2) e e' ∧ e'.1 84 (426 + 6 * b + 2) = e.1 84 (426 + 6 * b + 2) ∧ f_X12_poor (nI b) e = some (if z = M 10 b * (M 13 b + 1 - M 12 b) then nI D else -1, e') := by
  obtain ⟨⟨b0, b1, b2, b3, b4, b5⟩, -, w2, -, -, w5⟩ := pk_w hI.2.2
  have hB := w5 b hb
  obtain ⟨r9, r10, r11, r12, r13, r14⟩ := (pk_r hJ.1).2.2.2.2.2.2.2.2.2.2 b hb
  have hWb : M 10 b * (M 13 b + 1 - M 12 b) ≤ 9 * 20 := Nat.mul_le_mul (by omega) (by omega)
  generalize hW : M 10 b * (M 13 b + 1 - M 12 b) = W at hWb
  have hWn : ∀ n, n ≤ 99 → pm_W (pm_up M 11 b n) := fun n hn => pm_W_pays hn hI.2.2
  have hall : nI (M 10 b) * (nI (M 13 b) - nI (M 12 b) + 1) = nI W := by
    rw [pl_1, pn_sub (by omega), nI_add, pn_mul, ← hW, show M 13 b - M 12 b + 1 = M 13 b + 1 - M 12 b by omega]
  have hlow : ∀ n, n < D → ∃ y, pz_L M b n y ∧ y < W := by
    intro n hn
    obtain ⟨y, d', -, -, -, g1, g2⟩ := pz_L_run (n := n) hb (pm_C_pays (i := b) (v := n) hI.1) ⟨ya_sI e 84 (426 + 6 * b + 2) (nI n), by
      have := pm_R_pays (i := b) (v := n) (by omega) hJ.2 hJ.1
      rw [Nat.zero_add] at this
      exact ⟨this, hWn n (by omega), hWn n (by omega), pv_sim_r _⟩⟩
    refine ⟨y, g1, ?_⟩
    obtain ⟨t0, k1, k2, k3⟩ := h2
    have s1 := pn_sum_iv (A := M 12 b) (B := M 13 b) (w := M 10 b) (M 0 1)
    rw [show min (M 0 1) (M 13 b + 1) - M 12 b = M 13 b + 1 - M 12 b by omega, hW] at s1
    have s2 := pn_sum_up (f := fun t => if M 12 b ≤ t ∧ t ≤ M 13 b then M 10 b else 0) (i := t0) (v := 0) (M 0 1) (by omega)
    rw [s1, if_pos ⟨k1, k2⟩] at s2
    have s3 := pn_sum_mm (f := fun t => if pm_co (pm_up M 11 b n) (M 9 b) t (M 2 (20 * M 9 b + t)) b then M 10 b else 0) (g := pn_up (fun t => if M 12 b ≤ t ∧ t ≤ M 13 b then M 10 b else 0) t0 0) (M 0 1) (fun t ht => by
      by_cases c : t = t0
      · have hno : ¬ pm_co (pm_up M 11 b n) (M 9 b) t (M 2 (20 * M 9 b + t)) b := by
          rintro ⟨_, _, _, q⟩
          have q' : M 2 (20 * M 9 b + t) ≤ pm_up M 11 b n 11 b := q
          rw [pm_upe, c, k3] at q'
          omega
        rw [if_neg hno]; omega
      · rw [pn_upn c]
        by_cases c2 : pm_co (pm_up M 11 b n) (M 9 b) t (M 2 (20 * M 9 b + t)) b
        · rw [if_pos c2, if_pos (show M 12 b ≤ t ∧ t ≤ M 13 b from ⟨c2.2.1, c2.2.2.1⟩)]; exact Nat.le_refl _
        · rw [if_neg c2]; omega)
    omega
  have hhigh : ∀ n, D ≤ n → n ≤ 99 → pz_L M b n z := by
    intro n hn hn2 e' M' he'
    exact hL e' M' (ys_t (hWn D hD) (pv_sim_pays (fun t g1 g2 => by have := h1 t g1 g2; omega)) he')
  unfold f_X12_poor
  rw [pm_isBuyer2 hJ, Option.bind_some, if_pos (pn_ok_nI hb (by omega)), if_neg pn_10, show f_X12_of (nI b) 1 e = _ from pk_of (j := 1) (by omega), pb_s, show f_X12_of (nI b) 4 e = _ from pk_of (j := 4) (by omega), pb_s, show f_X12_of (nI b) 3 e = _ from pk_of (j := 3) (by omega), pb_s, show (426 : Int32) = nI 426 from rfl, show (6 : Int32) = nI 6 from rfl, show (2 : Int32) = nI 2 from rfl, pn_mul, nI_add, nI_add, pn_rI (by omega) (by omega), pb_s, r10, r11, r12, r13]
  rw [hall]
  have key := pq_lp (G := fun fu i (t : Int32 × ya_D) => f_X12_poor_L59 (nI b) (nI (426 + 6 * b + 2)) (nI W) (nI (M 11 b)) (fun (v5_109 : Int32) (d_109 : ya_D) => (ya_wI d_109 84 468 (nI (426 + 6 * b + 2)) (nI (M 11 b))).bind fun d116 => some (v5_109, d116)) fu t.1 (nI i) t.2) (E := fun (t : Int32 × ya_D) => some (t.1, ya_sI t.2 84 (426 + 6 * b + 2) (nI (M 11 b)))) (n := 100)
    (I := fun i t => pz_a2 (426 + 6 * b + 2) e t.2 ∧ ((t.1 = -1 ∧ (z = W → i ≤ D)) ∨ (t.1 = nI D ∧ z = W))) (Q := fun t => pz_a2 (426 + 6 * b + 2) e t.2 ∧ t.1 = if z = W then nI D else -1)
    (fun fu t hI2 => ?_) (fun fu i t hi hI2 => ?_) ya_F 0 (-1, e) (by omega) (by unfold ya_F; omega) ⟨⟨fun _ _ _ _ => rfl, fun _ _ => rfl, fun _ _ => rfl, fun _ _ _ => rfl⟩, Or.inl ⟨rfl, fun _ => by omega⟩⟩
  · obtain ⟨t, ⟨q1, q2⟩, k1⟩ := key
    refine ⟨ya_sI t.2 84 (426 + 6 * b + 2) (nI (M 11 b)), pz_a2_w q1, ?_, ?_⟩
    · rw [pn_e ⟨rfl, rfl⟩]
    · rw [← q2, show (0 : Int32) = nI 0 from rfl]
      exact k1
  · obtain ⟨q1, q2⟩ := hI2
    refine ⟨t, ⟨q1, ?_⟩, ?_⟩
    · rcases q2 with ⟨g1, g2⟩ | ⟨g1, g2⟩
      · rw [if_neg (fun w => by have := g2 w; omega)]; exact g1
      · rw [if_pos g2]; exact g1
    · show f_X12_poor_L59 _ _ _ _ _ (fu + 1) _ _ _ = _
      rw [f_X12_poor_L59, if_pos (by decide), pn_wI (by omega) (by omega), pb_s]
  · obtain ⟨v5, eR⟩ := t
    obtain ⟨q1, q2⟩ := hI2
    simp only at q1 q2
    have h99 : ¬ (99 : Int32) < nI i := nI_nlt (a := 99) (b := i) (by omega) (by omega)
    rcases q2 with ⟨g1, g2⟩ | ⟨g1, g2⟩
    · right
      subst g1
      have he : ys (ya_sI eR 84 (426 + 6 * b + 2) (nI i)) (pm_up M 11 b i) (pm_up M 11 b i) := ⟨pz_a2_R38 hJ (by omega) q1, hWn i (by omega), hWn i (by omega), pv_sim_r _⟩
      have hstep : ∀ (e1 : ya_D) (y : Nat), f_X12_runs (lN 1) (ya_sI eR 84 (426 + 6 * b + 2) (nI i)) = some e1 → e1.1 99 b = nI y → y < 2 ^ 31 → f_X12_poor_L59 (nI b) (nI (426 + 6 * b + 2)) (nI W) (nI (M 11 b)) (fun (v5_109 : Int32) (d_109 : ya_D) => (ya_wI d_109 84 468 (nI (426 + 6 * b + 2)) (nI (M 11 b))).bind fun d116 => some (v5_109, d116)) (fu + 1) (-1) (nI i) eR = f_X12_poor_L59 (nI b) (nI (426 + 6 * b + 2)) (nI W) (nI (M 11 b)) (fun (v5_109 : Int32) (d_109 : ya_D) => (ya_wI d_109 84 468 (nI (426 + 6 * b + 2)) (nI (M 11 b))).bind fun d116 => some (v5_109, d116)) fu (if y = W then nI i else -1) (nI (i + 1)) e1 := by
        intro e1 y k1 k2 k3
        rw [f_X12_poor_L59, if_neg h99, if_pos rfl, show ∀ q, ya_wI eR 84 468 (nI (426 + 6 * b + 2)) q = some (ya_sI eR 84 (426 + 6 * b + 2) q) from fun q => pn_wI (by omega) (by omega), pb_s, show (1 : Int64) = lN 1 from rfl, k1, pb_s, pn_rI (by omega) (by omega), pb_s, pj_1, k2, nI_1]
        by_cases c : y = W
        · rw [if_pos c, if_pos (by rw [c])]
        · rw [if_neg c, if_neg (fun w => c ((nI_eq k3 (by omega)).mp w))]
      by_cases c : i < D
      · obtain ⟨y, k1, k2⟩ := hlow i c
        obtain ⟨e1, k3, k4, k5⟩ := k1 _ _ he
        refine ⟨(-1, e1), ⟨pz_a2_t (pz_a2_w q1) k4, Or.inl ⟨rfl, fun _ => c⟩⟩, ?_⟩
        refine (hstep e1 y k3 k5 (by omega)).trans ?_
        rw [if_neg (by omega)]
      · obtain ⟨e1, k3, k4, k5⟩ := hhigh i (by omega) (by omega) _ _ he
        by_cases c2 : z = W
        · have hiD : i = D := by have := g2 c2; omega
          refine ⟨(nI D, e1), ⟨pz_a2_t (pz_a2_w q1) k4, Or.inr ⟨rfl, c2⟩⟩, ?_⟩
          refine (hstep e1 z k3 k5 hzb).trans ?_
          rw [if_pos c2, hiD]
        · refine ⟨(-1, e1), ⟨pz_a2_t (pz_a2_w q1) k4, Or.inl ⟨rfl, fun w => absurd w c2⟩⟩, ?_⟩
          refine (hstep e1 z k3 k5 hzb).trans ?_
          rw [if_neg c2]
    · left
      refine ⟨(v5, eR), ⟨q1, ?_⟩, ?_⟩
      · rw [if_pos g2]; exact g1
      · show f_X12_poor_L59 _ _ _ _ _ (fu + 1) _ _ _ = _
        rw [f_X12_poor_L59, if_neg h99, if_neg (by rw [g1]; exact pn_m1 (by omega)), pn_wI (by omega) (by omega), pb_s]
theorem pz_poor (hI : pm_I d M) (hY : pz_Y d M) (v : Int32) : pz_op d M (f_X11_poor v) (f_X12_poor v) := by
  obtain ⟨⟨b0, b1, b2, b3, b4, b5⟩, -, w2, -, -, w5⟩ := pk_w hI.2.2
  by_cases e1 : pn_ok v (M 0 5)
  · obtain ⟨b, hb, hb3, rfl⟩ := pn_ok_ex e1
    have hB := w5 b hb
    obtain ⟨c9, c10, c11, c12, c13, c14⟩ := (pk_c hI.1).2.2.2.2.2.2.2.2.2.2 b hb
    obtain ⟨D, hD, hd1, hd2, hd3⟩ := pz_dearest hI hb
    have hRD : pm_R (ya_sI d 84 (426 + 6 * b + 2) (nI D)) 84 0 (pm_up M 11 b D) := by
      have := pm_R_pays (i := b) (v := D) (by omega) hI.2.2 hI.2.1
      rw [Nat.zero_add] at this
      exact this
    obtain ⟨z, d1, A1, A2, A3, A4, A5⟩ := pz_L_run (n := D) hb (pm_C_pays (i := b) (v := D) hI.1) ⟨_, hRD, pm_W_pays hD hI.2.2, pm_W_pays hD hI.2.2, pv_sim_r _⟩
    have hzb : z < 2 ^ 31 := by
      have := pn_sum_le (f := fun t => if pm_co (pm_up M 11 b D) (M 9 b) t (M 2 (20 * M 9 b + t)) b then M 10 b else 0) (K := 9) (M 0 1) (fun t _ => by split <;> omega)
      omega
    have hWb : M 10 b * (M 13 b + 1 - M 12 b) ≤ 9 * 20 := Nat.mul_le_mul (by omega) (by omega)
    have hall : nI (M 10 b) * (nI (M 13 b) - nI (M 12 b) + 1) = nI (M 10 b * (M 13 b + 1 - M 12 b)) := by
      rw [pl_1, pn_sub (by omega), nI_add, pn_mul, show M 13 b - M 12 b + 1 = M 13 b + 1 - M 12 b by omega]
    -- the class's memory afterwards
    have row : ∀ a', (a' < 57 ∨ 72 ≤ a') → (ya_sI d1 38 b (nI (M 11 b))).1 a' = d.1 a' := by
      intro a' g
      by_cases c : a' = 38
      · subst c
        funext q
        by_cases c2 : q = b
        · rw [c2, pn_e ⟨rfl, rfl⟩]; exact c11.symm
        · rw [pn_o (Or.inr c2), A2.1 38 (by omega), pn_o (Or.inr c2)]
      · rw [rw_n c, A2.1 a' (by omega), rw_n c]
    have row2 : ∀ a' k, a' ≠ 57 → (ya_sI d1 38 b (nI (M 11 b))).2 a' k = d.2 a' k := fun a' k g => A2.2.2 a' k (Or.inl g)
    have hI1 : pm_I (ya_sI d1 38 b (nI (M 11 b))) M := ⟨pm_C_c hI.1 (fun a k h1 h2 => congrFun (row a (by omega)) k), pm_R_c hI.2.1 (fun k => congrFun (row 84 (by omega)) k), hI.2.2⟩
    have hY1 : pz_Y (ya_sI d1 38 b (nI (M 11 b))) M := pz_Y_c hY (fun a' h1 h2 => row a' (by omega)) (funext fun k => row2 42 k (by omega)) (congrFun (row 0 (by omega)) 9)
    have hF1 : pz_F d (ya_sI d1 38 b (nI (M 11 b))) := ⟨fun a k q => congrFun (row a (by unfold pz_s at q; omega)) k, fun a k q1 q2 q3 q4 => row2 a k q2⟩
    obtain ⟨d2, B1, B2, B3⟩ := pz_poor_ref hI hI1.2 hb hD hd2 hd3 A4 hzb
    obtain ⟨D1, D2, D3⟩ := pz_a2_I hI1 hY1 B1 B2
    refine ⟨_, _, d2, M, ?_, B3, D1, D2, pz_F_t hF1 D3⟩
    unfold f_X11_poor f_X1_wantsInAll
    rw [pm_isBuyer1 hI, Option.bind_some, if_pos e1, if_neg pn_10, hd1, pb_s, pn_rI (by omega) (by omega), pb_s, c11, pn_wI (by omega) (by omega), pb_s, show (1 : Int32) = nI 1 from rfl, A1, pb_s, pn_wI (by omega) (by omega), pb_s, pn_rI (by omega) (by omega), pb_s, pn_o (by omega), A3, pn_rI (by omega) (by omega), pb_s, pn_rI (by omega) (by omega), pb_s, pn_rI (by omega) (by omega), pb_s, pb_s, row 37 (by omega), row 40 (by omega), row 39 (by omega), c10, c12, c13]
    have hall' : nI (M 10 b) * (nI (M 13 b) - nI (M 12 b) + nI 1) = nI (M 10 b * (M 13 b + 1 - M 12 b)) := hall
    rw [hall']
    by_cases c : z = M 10 b * (M 13 b + 1 - M 12 b)
    · rw [if_pos c, if_pos (by rw [c])]
    · rw [if_neg c, if_neg (fun w => c ((nI_eq hzb (by omega)).mp w))]
  · refine pz_no hI hY (r := -2) ?_ ?_
    · unfold f_X11_poor
      rw [pm_isBuyer1 hI, Option.bind_some, if_neg e1, if_pos rfl]
    · unfold f_X12_poor
      rw [pm_isBuyer2 hI.2, Option.bind_some, if_neg e1, if_pos rfl]
end
